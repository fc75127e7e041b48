set_option maxHeartbeats 4000000 in
set_option maxRecDepth 100000 in
/-- lines() -/
theorem c_X3_lines (l : Launch) (D : va_G) (cI cR : ClassId) (m0 : Nat) (n0 : Nat) (q0 : Nat) (sv : Nat) (r0 : Nat) (t0 : Nat) (w0 : Nat) (u0 : Nat) (v0 : Nat) (y0 : Nat) (tm : Int32) (hs : Int64) (nw : Nat → Int32) (nl : Nat) (e0 : nw 0 = nI nl) : Ctr l D cI cR yX3_lines cX3_lines 1 ((some .int)) ({ frames := 0, cells := 0, slots := 0, locals := 0 }) [.ref m0] [(m0, .inr (3, [.ref n0, .ref q0, .int (nI sv), .ref r0, .ref t0, .ref w0, .ref u0, .ref v0, .ref y0, .int tm, .long hs])), (n0, .inl (cI, 148, .inl nw))] (rP (some (.int (nI nl))) [(m0, .inr (3, [.ref n0, .ref q0, .int (nI sv), .ref r0, .ref t0, .ref w0, .ref u0, .ref v0, .ref y0, .int tm, .long hs])), (n0, .inl (cI, 148, .inl nw))]) := by
  refine ctr_of (lv0 := [(0, .ref m0)]) (by decide) (nle rfl) rfl (fun G C E => ?_)
  refine r_aload_n C dX3_lines_0 0 rfl ?_
  refine r_get C clX3 dX3_lines_1 0 0 rfl (by decide) q_399 rfl ?_
  refine r_iconst C dX3_lines_4 (v := 0) (by decide) ?_
  refine r_iald C dX3_lines_5 1 rfl 0 rfl (by decide) (by decide) ?_
  refine r_top (b := nI nl) e0 ?_
  exact r_iret C E dX3_lines_6 (nle rfl) (nle rfl) ⟨rfl, rfl⟩
set_option maxHeartbeats 4000000 in
set_option maxRecDepth 100000 in
/-- varnished() -/
theorem c_X3_varnished (l : Launch) (D : va_G) (cI cR : ClassId) (m0 : Nat) (n0 : Nat) (q0 : Nat) (sv : Nat) (r0 : Nat) (t0 : Nat) (w0 : Nat) (u0 : Nat) (v0 : Nat) (y0 : Nat) (tm : Int32) (hs : Int64) (nw : Nat → Int32)  : Ctr l D cI cR yX3_varnished cX3_varnished 1 ((some .int)) ({ frames := 0, cells := 0, slots := 0, locals := 0 }) [.ref m0] [(m0, .inr (3, [.ref n0, .ref q0, .int (nI sv), .ref r0, .ref t0, .ref w0, .ref u0, .ref v0, .ref y0, .int tm, .long hs])), (n0, .inl (cI, 148, .inl nw))] (rP (some (.int (nw 5))) [(m0, .inr (3, [.ref n0, .ref q0, .int (nI sv), .ref r0, .ref t0, .ref w0, .ref u0, .ref v0, .ref y0, .int tm, .long hs])), (n0, .inl (cI, 148, .inl nw))]) := by
  refine ctr_of (lv0 := [(0, .ref m0)]) (by decide) (nle rfl) rfl (fun G C E => ?_)
  refine r_aload_n C dX3_varnished_0 0 rfl ?_
  refine r_get C clX3 dX3_varnished_1 0 0 rfl (by decide) q_399 rfl ?_
  refine r_iconst C dX3_varnished_4 (v := 5) (by decide) ?_
  refine r_iald C dX3_varnished_5 1 rfl 5 rfl (by decide) (by decide) ?_
  exact r_iret C E dX3_varnished_6 (nle rfl) (nle rfl) ⟨rfl, rfl⟩
set_option maxHeartbeats 4000000 in
set_option maxRecDepth 100000 in
/-- prints() -/
theorem c_X3_prints (l : Launch) (D : va_G) (cI cR : ClassId) (m0 : Nat) (n0 : Nat) (q0 : Nat) (sv : Nat) (r0 : Nat) (t0 : Nat) (w0 : Nat) (u0 : Nat) (v0 : Nat) (y0 : Nat) (tm : Int32) (hs : Int64) (nw : Nat → Int32) (pr : Nat) (e4 : nw 4 = nI pr) : Ctr l D cI cR yX3_prints cX3_prints 1 ((some .int)) ({ frames := 0, cells := 0, slots := 0, locals := 0 }) [.ref m0] [(m0, .inr (3, [.ref n0, .ref q0, .int (nI sv), .ref r0, .ref t0, .ref w0, .ref u0, .ref v0, .ref y0, .int tm, .long hs])), (n0, .inl (cI, 148, .inl nw))] (rP (some (.int (nI pr))) [(m0, .inr (3, [.ref n0, .ref q0, .int (nI sv), .ref r0, .ref t0, .ref w0, .ref u0, .ref v0, .ref y0, .int tm, .long hs])), (n0, .inl (cI, 148, .inl nw))]) := by
  refine ctr_of (lv0 := [(0, .ref m0)]) (by decide) (nle rfl) rfl (fun G C E => ?_)
  refine r_aload_n C dX3_prints_0 0 rfl ?_
  refine r_get C clX3 dX3_prints_1 0 0 rfl (by decide) q_399 rfl ?_
  refine r_iconst C dX3_prints_4 (v := 4) (by decide) ?_
  refine r_iald C dX3_prints_5 1 rfl 4 rfl (by decide) (by decide) ?_
  refine r_top (b := nI pr) e4 ?_
  exact r_iret C E dX3_prints_6 (nle rfl) (nle rfl) ⟨rfl, rfl⟩
set_option maxHeartbeats 4000000 in
set_option maxRecDepth 100000 in
/-- depth, of a line -/
theorem c_X3_depth_ok (l : Launch) (D : va_G) (cI cR : ClassId) (m0 : Nat) (n0 : Nat) (q0 : Nat) (sv : Nat) (r0 : Nat) (t0 : Nat) (w0 : Nat) (u0 : Nat) (v0 : Nat) (y0 : Nat) (tm : Int32) (hs : Int64) (nw : Nat → Int32) (nl : Nat) (li : Nat) (e0 : nw 0 = nI nl) (hnl : nl ≤ 10) (hli : li < nl) : Ctr l D cI cR yX3_depth cX3_depth 2 ((some .int)) ({ frames := 2, cells := 0, slots := 0, locals := 43 }) [.ref m0, .int (nI li)] [(m0, .inr (3, [.ref n0, .ref q0, .int (nI sv), .ref r0, .ref t0, .ref w0, .ref u0, .ref v0, .ref y0, .int tm, .long hs])), (n0, .inl (cI, 148, .inl nw))] (rP (some (.int (nw (6 + li)))) [(m0, .inr (3, [.ref n0, .ref q0, .int (nI sv), .ref r0, .ref t0, .ref w0, .ref u0, .ref v0, .ref y0, .int tm, .long hs])), (n0, .inl (cI, 148, .inl nw))]) := by
  refine ctr_of (lv0 := [(0, .ref m0), (1, .int (nI li))]) (by decide) (nle rfl) rfl (fun G C E => ?_)
  refine r_aload_n C dX3_depth_0 0 rfl ?_
  refine r_iload_n C dX3_depth_1 1 rfl ?_
  refine r_callV C (As := [.int (nI li)]) (rest := []) (wr := []) (c_X3_isLine l D cI cR m0 n0 q0 sv r0 t0 w0 u0 v0 y0 tm hs nw nl (nI li) (by first | assumption | omega)) k_X3_isLine rfl dX3_depth_2 q_475 q_477 q_16 ⟨nle rfl, nle rfl⟩ [0, 1] [] rfl rfl rfl rfl (by decide) 0 rfl rfl rfl (nle rfl) ⟨nle rfl, nle rfl⟩ (r_fin (st2 := [.int (wiF (nI li) 0 (nI nl - 1))]) (ws2 := [(m0, .inr (3, [.ref n0, .ref q0, .int (nI sv), .ref r0, .ref t0, .ref w0, .ref u0, .ref v0, .ref y0, .int tm, .long hs])), (n0, .inl (cI, 148, .inl nw))]) rfl rfl ?_)
  refine r_if_eq C dX3_depth_5 (tgt := 20) (by decide) (fun c_1 => ?_) (fun c_1 => ?_)
  · exact absurd c_1 (wi_ok hli (by omega))
  · refine r_aload_n C dX3_depth_8 0 rfl ?_
    refine r_get C clX3 dX3_depth_9 0 0 rfl (by decide) q_399 rfl ?_
    refine r_bipush C dX3_depth_12 (v := 6) (by decide) ?_
    refine r_iload_n C dX3_depth_14 1 rfl ?_
    refine r_iadd C dX3_depth_15 ?_
    refine r_top (b := nI (6 + li)) (nA rfl rfl) ?_
    refine r_iald C dX3_depth_16 1 rfl (6 + li) rfl (by omega) (by decide) ?_
    refine r_goto C dX3_depth_17 (tgt := 26) (by decide) ?_
    exact r_iret C E dX3_depth_26 (nle rfl) (nle rfl) ⟨rfl, rfl⟩
set_option maxHeartbeats 4000000 in
set_option maxRecDepth 100000 in
/-- depth, of no line -/
theorem c_X3_depth_no (l : Launch) (D : va_G) (cI cR : ClassId) (m0 : Nat) (n0 : Nat) (q0 : Nat) (sv : Nat) (r0 : Nat) (t0 : Nat) (w0 : Nat) (u0 : Nat) (v0 : Nat) (y0 : Nat) (tm : Int32) (hs : Int64) (nw : Nat → Int32) (nl : Nat) (er : Nat → Int32) (lx : Int32) (e0 : nw 0 = nI nl) (hv : wiF lx 0 (nI nl - 1) = 0) : Ctr l D cI cR yX3_depth cX3_depth 2 ((some .int)) ({ frames := 2, cells := 0, slots := 0, locals := 43 }) [.ref m0, .int lx] [(m0, .inr (3, [.ref n0, .ref q0, .int (nI sv), .ref r0, .ref t0, .ref w0, .ref u0, .ref v0, .ref y0, .int tm, .long hs])), (n0, .inl (cI, 148, .inl nw)), (r0, .inl (cI, 4, .inl er))] (rP (some (.int (-2))) [(m0, .inr (3, [.ref n0, .ref q0, .int (nI sv), .ref r0, .ref t0, .ref w0, .ref u0, .ref v0, .ref y0, .int tm, .long hs])), (n0, .inl (cI, 148, .inl nw)), (r0, .inl (cI, 4, .inl (upd er 0 (er 0 + 1))))]) := by
  refine ctr_of (lv0 := [(0, .ref m0), (1, .int lx)]) (by decide) (nle rfl) rfl (fun G C E => ?_)
  refine r_aload_n C dX3_depth_0 0 rfl ?_
  refine r_iload_n C dX3_depth_1 1 rfl ?_
  refine r_callV C (As := [.int lx]) (rest := []) (wr := [(r0, .inl (cI, 4, .inl er))]) (c_X3_isLine l D cI cR m0 n0 q0 sv r0 t0 w0 u0 v0 y0 tm hs nw nl lx (by first | assumption | omega)) k_X3_isLine rfl dX3_depth_2 q_475 q_477 q_16 ⟨nle rfl, nle rfl⟩ [0, 1] [2] rfl rfl rfl rfl (by decide) 0 rfl rfl rfl (nle rfl) ⟨nle rfl, nle rfl⟩ (r_fin (st2 := [.int (wiF lx 0 (nI nl - 1))]) (ws2 := [(r0, .inl (cI, 4, .inl er)), (m0, .inr (3, [.ref n0, .ref q0, .int (nI sv), .ref r0, .ref t0, .ref w0, .ref u0, .ref v0, .ref y0, .int tm, .long hs])), (n0, .inl (cI, 148, .inl nw))]) rfl rfl ?_)
  refine r_if_eq C dX3_depth_5 (tgt := 20) (by decide) (fun c_1 => ?_) (fun c_1 => ?_)
  · refine r_aload_n C dX3_depth_20 0 rfl ?_
    refine r_bipush C dX3_depth_21 (v := (-2)) (by decide) ?_
    refine r_callV C (As := [.int (-2)]) (rest := []) (wr := [(n0, .inl (cI, 148, .inl nw))]) (c_X3_fails l D cI cR m0 n0 q0 sv r0 t0 w0 u0 v0 y0 tm hs er (-2) 0 (by decide) (by decide)) k_X3_fails rfl dX3_depth_23 q_437 q_439 q_14 ⟨nle rfl, nle rfl⟩ [1, 0] [2] rfl rfl rfl rfl (by decide) 0 rfl rfl rfl (nle rfl) ⟨nle rfl, nle rfl⟩ (r_fin (st2 := [.int (-2)]) (ws2 := [(n0, .inl (cI, 148, .inl nw)), (m0, .inr (3, [.ref n0, .ref q0, .int (nI sv), .ref r0, .ref t0, .ref w0, .ref u0, .ref v0, .ref y0, .int tm, .long hs])), (r0, .inl (cI, 4, .inl (upd er 0 (er 0 + 1))))]) rfl rfl ?_)
    refine r_ws [1, 0, 2] (ws2 := [(m0, .inr (3, [.ref n0, .ref q0, .int (nI sv), .ref r0, .ref t0, .ref w0, .ref u0, .ref v0, .ref y0, .int tm, .long hs])), (n0, .inl (cI, 148, .inl nw)), (r0, .inl (cI, 4, .inl (upd er 0 (er 0 + 1))))]) rfl rfl ?_
    exact r_iret C E dX3_depth_26 (nle rfl) (nle rfl) ⟨rfl, rfl⟩
  · exact absurd hv c_1
set_option maxHeartbeats 4000000 in
set_option maxRecDepth 100000 in
/-- stateOf, of a print -/
theorem c_X3_stateOf_ok (l : Launch) (D : va_G) (cI cR : ClassId) (m0 : Nat) (n0 : Nat) (q0 : Nat) (sv : Nat) (r0 : Nat) (t0 : Nat) (w0 : Nat) (u0 : Nat) (v0 : Nat) (y0 : Nat) (tm : Int32) (hs : Int64) (nw : Nat → Int32) (pr : Nat) (li : Nat) (e4 : nw 4 = nI pr) (hpr : pr ≤ 12) (hli : li < pr) : Ctr l D cI cR yX3_stateOf cX3_stateOf 2 ((some .int)) ({ frames := 2, cells := 0, slots := 0, locals := 43 }) [.ref m0, .int (nI li)] [(m0, .inr (3, [.ref n0, .ref q0, .int (nI sv), .ref r0, .ref t0, .ref w0, .ref u0, .ref v0, .ref y0, .int tm, .long hs])), (n0, .inl (cI, 148, .inl nw))] (rP (some (.int (nw (16 + li)))) [(m0, .inr (3, [.ref n0, .ref q0, .int (nI sv), .ref r0, .ref t0, .ref w0, .ref u0, .ref v0, .ref y0, .int tm, .long hs])), (n0, .inl (cI, 148, .inl nw))]) := by
  refine ctr_of (lv0 := [(0, .ref m0), (1, .int (nI li))]) (by decide) (nle rfl) rfl (fun G C E => ?_)
  refine r_aload_n C dX3_stateOf_0 0 rfl ?_
  refine r_iload_n C dX3_stateOf_1 1 rfl ?_
  refine r_callV C (As := [.int (nI li)]) (rest := []) (wr := []) (c_X3_isPrint l D cI cR m0 n0 q0 sv r0 t0 w0 u0 v0 y0 tm hs nw pr (nI li) (by first | assumption | omega)) k_X3_isPrint rfl dX3_stateOf_2 q_517 q_519 q_17 ⟨nle rfl, nle rfl⟩ [0, 1] [] rfl rfl rfl rfl (by decide) 0 rfl rfl rfl (nle rfl) ⟨nle rfl, nle rfl⟩ (r_fin (st2 := [.int (wiF (nI li) 0 (nI pr - 1))]) (ws2 := [(m0, .inr (3, [.ref n0, .ref q0, .int (nI sv), .ref r0, .ref t0, .ref w0, .ref u0, .ref v0, .ref y0, .int tm, .long hs])), (n0, .inl (cI, 148, .inl nw))]) rfl rfl ?_)
  refine r_if_eq C dX3_stateOf_5 (tgt := 20) (by decide) (fun c_1 => ?_) (fun c_1 => ?_)
  · exact absurd c_1 (wi_ok hli (by omega))
  · refine r_aload_n C dX3_stateOf_8 0 rfl ?_
    refine r_get C clX3 dX3_stateOf_9 0 0 rfl (by decide) q_399 rfl ?_
    refine r_bipush C dX3_stateOf_12 (v := 16) (by decide) ?_
    refine r_iload_n C dX3_stateOf_14 1 rfl ?_
    refine r_iadd C dX3_stateOf_15 ?_
    refine r_top (b := nI (16 + li)) (nA rfl rfl) ?_
    refine r_iald C dX3_stateOf_16 1 rfl (16 + li) rfl (by omega) (by decide) ?_
    refine r_goto C dX3_stateOf_17 (tgt := 26) (by decide) ?_
    exact r_iret C E dX3_stateOf_26 (nle rfl) (nle rfl) ⟨rfl, rfl⟩
set_option maxHeartbeats 4000000 in
set_option maxRecDepth 100000 in
/-- stateOf, of no print -/
theorem c_X3_stateOf_no (l : Launch) (D : va_G) (cI cR : ClassId) (m0 : Nat) (n0 : Nat) (q0 : Nat) (sv : Nat) (r0 : Nat) (t0 : Nat) (w0 : Nat) (u0 : Nat) (v0 : Nat) (y0 : Nat) (tm : Int32) (hs : Int64) (nw : Nat → Int32) (pr : Nat) (er : Nat → Int32) (lx : Int32) (e4 : nw 4 = nI pr) (hv : wiF lx 0 (nI pr - 1) = 0) : Ctr l D cI cR yX3_stateOf cX3_stateOf 2 ((some .int)) ({ frames := 2, cells := 0, slots := 0, locals := 43 }) [.ref m0, .int lx] [(m0, .inr (3, [.ref n0, .ref q0, .int (nI sv), .ref r0, .ref t0, .ref w0, .ref u0, .ref v0, .ref y0, .int tm, .long hs])), (n0, .inl (cI, 148, .inl nw)), (r0, .inl (cI, 4, .inl er))] (rP (some (.int (-2))) [(m0, .inr (3, [.ref n0, .ref q0, .int (nI sv), .ref r0, .ref t0, .ref w0, .ref u0, .ref v0, .ref y0, .int tm, .long hs])), (n0, .inl (cI, 148, .inl nw)), (r0, .inl (cI, 4, .inl (upd er 0 (er 0 + 1))))]) := by
  refine ctr_of (lv0 := [(0, .ref m0), (1, .int lx)]) (by decide) (nle rfl) rfl (fun G C E => ?_)
  refine r_aload_n C dX3_stateOf_0 0 rfl ?_
  refine r_iload_n C dX3_stateOf_1 1 rfl ?_
  refine r_callV C (As := [.int lx]) (rest := []) (wr := [(r0, .inl (cI, 4, .inl er))]) (c_X3_isPrint l D cI cR m0 n0 q0 sv r0 t0 w0 u0 v0 y0 tm hs nw pr lx (by first | assumption | omega)) k_X3_isPrint rfl dX3_stateOf_2 q_517 q_519 q_17 ⟨nle rfl, nle rfl⟩ [0, 1] [2] rfl rfl rfl rfl (by decide) 0 rfl rfl rfl (nle rfl) ⟨nle rfl, nle rfl⟩ (r_fin (st2 := [.int (wiF lx 0 (nI pr - 1))]) (ws2 := [(r0, .inl (cI, 4, .inl er)), (m0, .inr (3, [.ref n0, .ref q0, .int (nI sv), .ref r0, .ref t0, .ref w0, .ref u0, .ref v0, .ref y0, .int tm, .long hs])), (n0, .inl (cI, 148, .inl nw))]) rfl rfl ?_)
  refine r_if_eq C dX3_stateOf_5 (tgt := 20) (by decide) (fun c_1 => ?_) (fun c_1 => ?_)
  · refine r_aload_n C dX3_stateOf_20 0 rfl ?_
    refine r_bipush C dX3_stateOf_21 (v := (-2)) (by decide) ?_
    refine r_callV C (As := [.int (-2)]) (rest := []) (wr := [(n0, .inl (cI, 148, .inl nw))]) (c_X3_fails l D cI cR m0 n0 q0 sv r0 t0 w0 u0 v0 y0 tm hs er (-2) 0 (by decide) (by decide)) k_X3_fails rfl dX3_stateOf_23 q_437 q_439 q_14 ⟨nle rfl, nle rfl⟩ [1, 0] [2] rfl rfl rfl rfl (by decide) 0 rfl rfl rfl (nle rfl) ⟨nle rfl, nle rfl⟩ (r_fin (st2 := [.int (-2)]) (ws2 := [(n0, .inl (cI, 148, .inl nw)), (m0, .inr (3, [.ref n0, .ref q0, .int (nI sv), .ref r0, .ref t0, .ref w0, .ref u0, .ref v0, .ref y0, .int tm, .long hs])), (r0, .inl (cI, 4, .inl (upd er 0 (er 0 + 1))))]) rfl rfl ?_)
    refine r_ws [1, 0, 2] (ws2 := [(m0, .inr (3, [.ref n0, .ref q0, .int (nI sv), .ref r0, .ref t0, .ref w0, .ref u0, .ref v0, .ref y0, .int tm, .long hs])), (n0, .inl (cI, 148, .inl nw)), (r0, .inl (cI, 4, .inl (upd er 0 (er 0 + 1))))]) rfl rfl ?_
    exact r_iret C E dX3_stateOf_26 (nle rfl) (nle rfl) ⟨rfl, rfl⟩
  · exact absurd hv c_1
set_option maxHeartbeats 4000000 in
set_option maxRecDepth 100000 in
/-- toneOf(print, line) -/
theorem c_X3_toneOf (l : Launch) (D : va_G) (cI cR : ClassId) (m0 : Nat) (n0 : Nat) (q0 : Nat) (sv : Nat) (r0 : Nat) (t0 : Nat) (w0 : Nat) (u0 : Nat) (v0 : Nat) (y0 : Nat) (tm : Int32) (hs : Int64) (nw : Nat → Int32) (pq : Nat) (li : Nat) (hpq : pq < 12) (hli : li < 10) : Ctr l D cI cR yX3_toneOf cX3_toneOf 3 ((some .int)) ({ frames := 0, cells := 0, slots := 0, locals := 0 }) [.ref m0, .int (nI pq), .int (nI li)] [(m0, .inr (3, [.ref n0, .ref q0, .int (nI sv), .ref r0, .ref t0, .ref w0, .ref u0, .ref v0, .ref y0, .int tm, .long hs])), (n0, .inl (cI, 148, .inl nw))] (rP (some (.int (nw (28 + 10 * pq + li)))) [(m0, .inr (3, [.ref n0, .ref q0, .int (nI sv), .ref r0, .ref t0, .ref w0, .ref u0, .ref v0, .ref y0, .int tm, .long hs])), (n0, .inl (cI, 148, .inl nw))]) := by
  refine ctr_of (lv0 := [(0, .ref m0), (1, .int (nI pq)), (2, .int (nI li))]) (by decide) (nle rfl) rfl (fun G C E => ?_)
  refine r_aload_n C dX3_toneOf_0 0 rfl ?_
  refine r_get C clX3 dX3_toneOf_1 0 0 rfl (by decide) q_399 rfl ?_
  refine r_bipush C dX3_toneOf_4 (v := 28) (by decide) ?_
  refine r_bipush C dX3_toneOf_6 (v := 10) (by decide) ?_
  refine r_iload_n C dX3_toneOf_8 1 rfl ?_
  refine r_imul C dX3_toneOf_9 ?_
  refine r_top (b := nI (10 * pq)) (nM rfl rfl) ?_
  refine r_iadd C dX3_toneOf_10 ?_
  refine r_top (b := nI (28 + (10 * pq))) (nA rfl rfl) ?_
  refine r_iload_n C dX3_toneOf_11 2 rfl ?_
  refine r_iadd C dX3_toneOf_12 ?_
  refine r_top (b := nI (28 + (10 * pq) + li)) (nA rfl rfl) ?_
  refine r_iald C dX3_toneOf_13 1 rfl (28 + (10 * pq) + li) rfl (by omega) (by decide) ?_
  exact r_iret C E dX3_toneOf_14 (nle rfl) (nle rfl) ⟨rfl, rfl⟩
set_option maxHeartbeats 4000000 in
set_option maxRecDepth 100000 in
/-- tone, in range -/
theorem c_X3_tone_ok (l : Launch) (D : va_G) (cI cR : ClassId) (m0 : Nat) (n0 : Nat) (q0 : Nat) (sv : Nat) (r0 : Nat) (t0 : Nat) (w0 : Nat) (u0 : Nat) (v0 : Nat) (y0 : Nat) (tm : Int32) (hs : Int64) (nw : Nat → Int32) (nl : Nat) (pr : Nat) (pq : Nat) (li : Nat) (e0 : nw 0 = nI nl) (e4 : nw 4 = nI pr) (hnl : nl ≤ 10) (hpr : pr ≤ 12) (hpq : pq < pr) (hli : li < nl) : Ctr l D cI cR yX3_tone cX3_tone 3 ((some .int)) ({ frames := 2, cells := 0, slots := 0, locals := 43 }) [.ref m0, .int (nI pq), .int (nI li)] [(m0, .inr (3, [.ref n0, .ref q0, .int (nI sv), .ref r0, .ref t0, .ref w0, .ref u0, .ref v0, .ref y0, .int tm, .long hs])), (n0, .inl (cI, 148, .inl nw))] (rP (some (.int (nw (28 + 10 * pq + li)))) [(m0, .inr (3, [.ref n0, .ref q0, .int (nI sv), .ref r0, .ref t0, .ref w0, .ref u0, .ref v0, .ref y0, .int tm, .long hs])), (n0, .inl (cI, 148, .inl nw))]) := by
  refine ctr_of (lv0 := [(0, .ref m0), (1, .int (nI pq)), (2, .int (nI li))]) (by decide) (nle rfl) rfl (fun G C E => ?_)
  refine r_aload_n C dX3_tone_0 0 rfl ?_
  refine r_iload_n C dX3_tone_1 1 rfl ?_
  refine r_callV C (As := [.int (nI pq)]) (rest := []) (wr := []) (c_X3_isPrint l D cI cR m0 n0 q0 sv r0 t0 w0 u0 v0 y0 tm hs nw pr (nI pq) (by first | assumption | omega)) k_X3_isPrint rfl dX3_tone_2 q_517 q_519 q_17 ⟨nle rfl, nle rfl⟩ [0, 1] [] rfl rfl rfl rfl (by decide) 0 rfl rfl rfl (nle rfl) ⟨nle rfl, nle rfl⟩ (r_fin (st2 := [.int (wiF (nI pq) 0 (nI pr - 1))]) (ws2 := [(m0, .inr (3, [.ref n0, .ref q0, .int (nI sv), .ref r0, .ref t0, .ref w0, .ref u0, .ref v0, .ref y0, .int tm, .long hs])), (n0, .inl (cI, 148, .inl nw))]) rfl rfl ?_)
  refine r_if_eq C dX3_tone_5 (tgt := 25) (by decide) (fun c_1 => ?_) (fun c_1 => ?_)
  · exact absurd c_1 (wi_ok hpq (by omega))
  · refine r_aload_n C dX3_tone_8 0 rfl ?_
    refine r_iload_n C dX3_tone_9 2 rfl ?_
    refine r_callV C (As := [.int (nI li)]) (rest := []) (wr := []) (c_X3_isLine l D cI cR m0 n0 q0 sv r0 t0 w0 u0 v0 y0 tm hs nw nl (nI li) (by first | assumption | omega)) k_X3_isLine rfl dX3_tone_10 q_475 q_477 q_16 ⟨nle rfl, nle rfl⟩ [0, 1] [] rfl rfl rfl rfl (by decide) 0 rfl rfl rfl (nle rfl) ⟨nle rfl, nle rfl⟩ (r_fin (st2 := [.int (wiF (nI li) 0 (nI nl - 1))]) (ws2 := [(m0, .inr (3, [.ref n0, .ref q0, .int (nI sv), .ref r0, .ref t0, .ref w0, .ref u0, .ref v0, .ref y0, .int tm, .long hs])), (n0, .inl (cI, 148, .inl nw))]) rfl rfl ?_)
    refine r_if_eq C dX3_tone_13 (tgt := 25) (by decide) (fun c_2 => ?_) (fun c_2 => ?_)
    · exact absurd c_2 (wi_ok hli (by omega))
    · refine r_aload_n C dX3_tone_16 0 rfl ?_
      refine r_iload_n C dX3_tone_17 1 rfl ?_
      refine r_iload_n C dX3_tone_18 2 rfl ?_
      refine r_callV C (As := [.int (nI pq), .int (nI li)]) (rest := []) (wr := []) (c_X3_toneOf l D cI cR m0 n0 q0 sv r0 t0 w0 u0 v0 y0 tm hs nw pq li (by first | assumption | omega) (by first | assumption | omega)) k_X3_toneOf rfl dX3_tone_19 q_525 q_527 q_18 ⟨nle rfl, nle rfl⟩ [0, 1] [] rfl rfl rfl rfl (by decide) 0 rfl rfl rfl (nle rfl) ⟨nle rfl, nle rfl⟩ (r_fin (st2 := [.int (nw (28 + 10 * pq + li))]) (ws2 := [(m0, .inr (3, [.ref n0, .ref q0, .int (nI sv), .ref r0, .ref t0, .ref w0, .ref u0, .ref v0, .ref y0, .int tm, .long hs])), (n0, .inl (cI, 148, .inl nw))]) rfl rfl ?_)
      refine r_goto C dX3_tone_22 (tgt := 31) (by decide) ?_
      exact r_iret C E dX3_tone_31 (nle rfl) (nle rfl) ⟨rfl, rfl⟩
set_option maxHeartbeats 4000000 in
set_option maxRecDepth 100000 in
/-- tone, out of range -/
theorem c_X3_tone_no (l : Launch) (D : va_G) (cI cR : ClassId) (m0 : Nat) (n0 : Nat) (q0 : Nat) (sv : Nat) (r0 : Nat) (t0 : Nat) (w0 : Nat) (u0 : Nat) (v0 : Nat) (y0 : Nat) (tm : Int32) (hs : Int64) (nw : Nat → Int32) (nl : Nat) (pr : Nat) (er : Nat → Int32) (lx : Int32) (kx : Int32) (e0 : nw 0 = nI nl) (e4 : nw 4 = nI pr) (hv : ¬ (¬ wiF lx 0 (nI pr - 1) = 0 ∧ ¬ wiF kx 0 (nI nl - 1) = 0)) : Ctr l D cI cR yX3_tone cX3_tone 3 ((some .int)) ({ frames := 2, cells := 0, slots := 0, locals := 43 }) [.ref m0, .int lx, .int kx] [(m0, .inr (3, [.ref n0, .ref q0, .int (nI sv), .ref r0, .ref t0, .ref w0, .ref u0, .ref v0, .ref y0, .int tm, .long hs])), (n0, .inl (cI, 148, .inl nw)), (r0, .inl (cI, 4, .inl er))] (rP (some (.int (-2))) [(m0, .inr (3, [.ref n0, .ref q0, .int (nI sv), .ref r0, .ref t0, .ref w0, .ref u0, .ref v0, .ref y0, .int tm, .long hs])), (n0, .inl (cI, 148, .inl nw)), (r0, .inl (cI, 4, .inl (upd er 0 (er 0 + 1))))]) := by
  refine ctr_of (lv0 := [(0, .ref m0), (1, .int lx), (2, .int kx)]) (by decide) (nle rfl) rfl (fun G C E => ?_)
  refine r_aload_n C dX3_tone_0 0 rfl ?_
  refine r_iload_n C dX3_tone_1 1 rfl ?_
  refine r_callV C (As := [.int lx]) (rest := []) (wr := [(r0, .inl (cI, 4, .inl er))]) (c_X3_isPrint l D cI cR m0 n0 q0 sv r0 t0 w0 u0 v0 y0 tm hs nw pr lx (by first | assumption | omega)) k_X3_isPrint rfl dX3_tone_2 q_517 q_519 q_17 ⟨nle rfl, nle rfl⟩ [0, 1] [2] rfl rfl rfl rfl (by decide) 0 rfl rfl rfl (nle rfl) ⟨nle rfl, nle rfl⟩ (r_fin (st2 := [.int (wiF lx 0 (nI pr - 1))]) (ws2 := [(r0, .inl (cI, 4, .inl er)), (m0, .inr (3, [.ref n0, .ref q0, .int (nI sv), .ref r0, .ref t0, .ref w0, .ref u0, .ref v0, .ref y0, .int tm, .long hs])), (n0, .inl (cI, 148, .inl nw))]) rfl rfl ?_)
  refine r_if_eq C dX3_tone_5 (tgt := 25) (by decide) (fun hc5 => ?_) (fun hc5 => ?_)
  · refine r_aload_n C dX3_tone_25 0 rfl ?_
    refine r_bipush C dX3_tone_26 (v := (-2)) (by decide) ?_
    refine r_callV C (As := [.int (-2)]) (rest := []) (wr := [(n0, .inl (cI, 148, .inl nw))]) (c_X3_fails l D cI cR m0 n0 q0 sv r0 t0 w0 u0 v0 y0 tm hs er (-2) 0 (by decide) (by decide)) k_X3_fails rfl dX3_tone_28 q_437 q_439 q_14 ⟨nle rfl, nle rfl⟩ [1, 0] [2] rfl rfl rfl rfl (by decide) 0 rfl rfl rfl (nle rfl) ⟨nle rfl, nle rfl⟩ (r_fin (st2 := [.int (-2)]) (ws2 := [(n0, .inl (cI, 148, .inl nw)), (m0, .inr (3, [.ref n0, .ref q0, .int (nI sv), .ref r0, .ref t0, .ref w0, .ref u0, .ref v0, .ref y0, .int tm, .long hs])), (r0, .inl (cI, 4, .inl (upd er 0 (er 0 + 1))))]) rfl rfl ?_)
    refine r_ws [1, 0, 2] (ws2 := [(m0, .inr (3, [.ref n0, .ref q0, .int (nI sv), .ref r0, .ref t0, .ref w0, .ref u0, .ref v0, .ref y0, .int tm, .long hs])), (n0, .inl (cI, 148, .inl nw)), (r0, .inl (cI, 4, .inl (upd er 0 (er 0 + 1))))]) rfl rfl ?_
    exact r_iret C E dX3_tone_31 (nle rfl) (nle rfl) ⟨rfl, rfl⟩
  · refine r_aload_n C dX3_tone_8 0 rfl ?_
    refine r_iload_n C dX3_tone_9 2 rfl ?_
    refine r_callV C (As := [.int kx]) (rest := []) (wr := [(r0, .inl (cI, 4, .inl er))]) (c_X3_isLine l D cI cR m0 n0 q0 sv r0 t0 w0 u0 v0 y0 tm hs nw nl kx (by first | assumption | omega)) k_X3_isLine rfl dX3_tone_10 q_475 q_477 q_16 ⟨nle rfl, nle rfl⟩ [1, 2] [0] rfl rfl rfl rfl (by decide) 0 rfl rfl rfl (nle rfl) ⟨nle rfl, nle rfl⟩ (r_fin (st2 := [.int (wiF kx 0 (nI nl - 1))]) (ws2 := [(r0, .inl (cI, 4, .inl er)), (m0, .inr (3, [.ref n0, .ref q0, .int (nI sv), .ref r0, .ref t0, .ref w0, .ref u0, .ref v0, .ref y0, .int tm, .long hs])), (n0, .inl (cI, 148, .inl nw))]) rfl rfl ?_)
    refine r_if_eq C dX3_tone_13 (tgt := 25) (by decide) (fun c_1 => ?_) (fun c_1 => ?_)
    · refine r_aload_n C dX3_tone_25 0 rfl ?_
      refine r_bipush C dX3_tone_26 (v := (-2)) (by decide) ?_
      refine r_callV C (As := [.int (-2)]) (rest := []) (wr := [(n0, .inl (cI, 148, .inl nw))]) (c_X3_fails l D cI cR m0 n0 q0 sv r0 t0 w0 u0 v0 y0 tm hs er (-2) 0 (by decide) (by decide)) k_X3_fails rfl dX3_tone_28 q_437 q_439 q_14 ⟨nle rfl, nle rfl⟩ [1, 0] [2] rfl rfl rfl rfl (by decide) 0 rfl rfl rfl (nle rfl) ⟨nle rfl, nle rfl⟩ (r_fin (st2 := [.int (-2)]) (ws2 := [(n0, .inl (cI, 148, .inl nw)), (m0, .inr (3, [.ref n0, .ref q0, .int (nI sv), .ref r0, .ref t0, .ref w0, .ref u0, .ref v0, .ref y0, .int tm, .long hs])), (r0, .inl (cI, 4, .inl (upd er 0 (er 0 + 1))))]) rfl rfl ?_)
      refine r_ws [1, 0, 2] (ws2 := [(m0, .inr (3, [.ref n0, .ref q0, .int (nI sv), .ref r0, .ref t0, .ref w0, .ref u0, .ref v0, .ref y0, .int tm, .long hs])), (n0, .inl (cI, 148, .inl nw)), (r0, .inl (cI, 4, .inl (upd er 0 (er 0 + 1))))]) rfl rfl ?_
      exact r_iret C E dX3_tone_31 (nle rfl) (nle rfl) ⟨rfl, rfl⟩
    · exact absurd ⟨hc5, c_1⟩ hv
set_option maxHeartbeats 4000000 in
set_option maxRecDepth 100000 in
/-- may(i, j) -/
theorem c_X3_may (l : Launch) (D : va_G) (cI cR : ClassId) (m0 : Nat) (n0 : Nat) (q0 : Nat) (sv : Nat) (r0 : Nat) (t0 : Nat) (w0 : Nat) (u0 : Nat) (v0 : Nat) (y0 : Nat) (tm : Int32) (hs : Int64) (nw : Nat → Int32) (ii : Nat) (jj : Nat) (hii : ii < 12) (hjj : jj < 12) : Ctr l D cI cR yX3_may cX3_may 5 ((some .boolean)) ({ frames := 1, cells := 0, slots := 0, locals := 22 }) [.ref m0, .int (nI ii), .int (nI jj)] [(m0, .inr (3, [.ref n0, .ref q0, .int (nI sv), .ref r0, .ref t0, .ref w0, .ref u0, .ref v0, .ref y0, .int tm, .long hs])), (n0, .inl (cI, 148, .inl nw))] (rP (some (.int (mayF nw ii jj))) [(m0, .inr (3, [.ref n0, .ref q0, .int (nI sv), .ref r0, .ref t0, .ref w0, .ref u0, .ref v0, .ref y0, .int tm, .long hs])), (n0, .inl (cI, 148, .inl nw))]) := by
  refine ctr_of (lv0 := [(0, .ref m0), (1, .int (nI ii)), (2, .int (nI jj))]) (by decide) (nle rfl) rfl (fun G C E => ?_)
  refine r_iconst C dX3_may_0 (v := 1) (by decide) ?_
  refine r_istore_n C dX3_may_1 (lv2 := [(3, .int 1), (0, .ref m0), (1, .int (nI ii)), (2, .int (nI jj))]) (by decide) rfl ?_
  refine r_iconst C dX3_may_2 (v := 0) (by decide) ?_
  refine r_istore C dX3_may_3 (lv2 := [(4, .int 0), (3, .int 1), (0, .ref m0), (1, .int (nI ii)), (2, .int (nI jj))]) (by decide) rfl ?_
  have L_5 : ∀ (z i : Nat), i ≤ 10 → 10 < i + z → ∀ (is : Int32), is = maF nw ii jj i → Wr G 0 0 5 [(4, .int (nI i)), (3, .int is), (0, .ref m0), (1, .int (nI ii)), (2, .int (nI jj))] [] [(m0, .inr (3, [.ref n0, .ref q0, .int (nI sv), .ref r0, .ref t0, .ref w0, .ref u0, .ref v0, .ref y0, .int tm, .long hs])), (n0, .inl (cI, 148, .inl nw))] := by
    intro z
    induction z with
    | zero => intro i h1 h2; exact absurd h2 (by omega)
    | succ z ih_5 =>
      intro i hi_5 hz_5 is e_is
      refine r_iload C dX3_may_5 0 rfl ?_
      refine r_bipush C dX3_may_7 (v := 10) (by decide) ?_
      refine r_icmp_ge C dX3_may_9 (tgt := 45) (by decide) (fun c_1 => ?_) (fun c_1 => ?_)
      · have n_2 := (nI_leI (a := 10) (b := i) (by omega) (by omega)).mp c_1
        have ex_5 : i = 10 := by omega
        subst ex_5
        refine r_iload_n C dX3_may_45 1 rfl ?_
        exact r_zret C E dX3_may_46 (nle rfl) (nle rfl) (by rw [e_is]; exact zB (ma01 nw ii jj 10)) ⟨by rw [e_is, mayF, ten_eq], rfl⟩
      · have n_2 := mt (nI_leI (a := 10) (b := i) (by omega) (by omega)).mpr c_1
        refine r_iload_n C dX3_may_12 1 rfl ?_
        have J_6 : ∀ (v_5 : Int32), v_5 = (if is = 0 then (0 : Int32) else (if (nw (28 + 10 * jj + i)) < (nw (28 + 10 * ii + i)) then (0 : Int32) else 1)) → Wr G 0 0 38 [(4, .int (nI i)), (3, .int is), (0, .ref m0), (1, .int (nI ii)), (2, .int (nI jj))] [.int v_5] [(m0, .inr (3, [.ref n0, .ref q0, .int (nI sv), .ref r0, .ref t0, .ref w0, .ref u0, .ref v0, .ref y0, .int tm, .long hs])), (n0, .inl (cI, 148, .inl nw))] := by
          intro v_5 ev_5
          subst ev_5
          refine r_istore_n C dX3_may_38 (lv2 := [(3, .int (if is = 0 then (0 : Int32) else (if (nw (28 + 10 * jj + i)) < (nw (28 + 10 * ii + i)) then (0 : Int32) else 1))), (4, .int (nI i)), (0, .ref m0), (1, .int (nI ii)), (2, .int (nI jj))]) (by decide) rfl ?_
          refine r_iinc C dX3_may_39 1 rfl (v := nI (i + 1)) (nI_1 _) (by decide) (lv2 := [(4, .int (nI (i + 1))), (3, .int (if is = 0 then (0 : Int32) else (if (nw (28 + 10 * jj + i)) < (nw (28 + 10 * ii + i)) then (0 : Int32) else 1))), (0, .ref m0), (1, .int (nI ii)), (2, .int (nI jj))]) rfl ?_
          refine r_goto C dX3_may_42 (tgt := 5) (by decide) ?_
          exact ih_5 (i + 1) (by omega) (by omega) _ (by subst e_is; rfl) 
        refine r_if_eq C dX3_may_13 (tgt := 37) (by decide) (fun c_3 => ?_) (fun c_3 => ?_)
        · refine r_iconst C dX3_may_37 (v := 0) (by decide) ?_
          exact J_6 _ (by first | rfl | simp only [if_pos c_3])
        · refine r_aload_n C dX3_may_16 2 rfl ?_
          refine r_iload_n C dX3_may_17 4 rfl ?_
          refine r_iload C dX3_may_18 0 rfl ?_
          refine r_callV C (As := [.int (nI jj), .int (nI i)]) (rest := []) (wr := []) (c_X3_toneOf l D cI cR m0 n0 q0 sv r0 t0 w0 u0 v0 y0 tm hs nw jj i (by first | assumption | omega) (by first | assumption | omega)) k_X3_toneOf rfl dX3_may_20 q_525 q_527 q_18 ⟨nle rfl, nle rfl⟩ [0, 1] [] rfl rfl rfl rfl (by decide) 0 rfl rfl rfl (nle rfl) ⟨nle rfl, nle rfl⟩ (r_fin (st2 := [.int (nw (28 + 10 * jj + i))]) (ws2 := [(m0, .inr (3, [.ref n0, .ref q0, .int (nI sv), .ref r0, .ref t0, .ref w0, .ref u0, .ref v0, .ref y0, .int tm, .long hs])), (n0, .inl (cI, 148, .inl nw))]) rfl rfl ?_)
          refine r_aload_n C dX3_may_23 2 rfl ?_
          refine r_iload_n C dX3_may_24 3 rfl ?_
          refine r_iload C dX3_may_25 0 rfl ?_
          refine r_callV C (As := [.int (nI ii), .int (nI i)]) (rest := [.int (nw (28 + 10 * jj + i))]) (wr := []) (c_X3_toneOf l D cI cR m0 n0 q0 sv r0 t0 w0 u0 v0 y0 tm hs nw ii i (by first | assumption | omega) (by first | assumption | omega)) k_X3_toneOf rfl dX3_may_27 q_525 q_527 q_18 ⟨nle rfl, nle rfl⟩ [0, 1] [] rfl rfl rfl rfl (by decide) 0 rfl rfl rfl (nle rfl) ⟨nle rfl, nle rfl⟩ (r_fin (st2 := [.int (nw (28 + 10 * ii + i)), .int (nw (28 + 10 * jj + i))]) (ws2 := [(m0, .inr (3, [.ref n0, .ref q0, .int (nI sv), .ref r0, .ref t0, .ref w0, .ref u0, .ref v0, .ref y0, .int tm, .long hs])), (n0, .inl (cI, 148, .inl nw))]) rfl rfl ?_)
          refine r_icmp_lt C dX3_may_30 (tgt := 37) (by decide) (fun c_4 => ?_) (fun c_4 => ?_)
          · refine r_iconst C dX3_may_37 (v := 0) (by decide) ?_
            exact J_6 _ (by first | rfl | simp only [if_neg c_3, if_pos c_4])
          · refine r_iconst C dX3_may_33 (v := 1) (by decide) ?_
            refine r_goto C dX3_may_34 (tgt := 38) (by decide) ?_
            exact J_6 _ (by first | rfl | simp only [if_neg c_3, if_neg c_4])
  exact L_5 (10 + 1) 0 (by omega) (by omega) _ rfl 
set_option maxHeartbeats 4000000 in
set_option maxRecDepth 100000 in
/-- mayPrecede, in range -/
theorem c_X3_mayPrecede_ok (l : Launch) (D : va_G) (cI cR : ClassId) (m0 : Nat) (n0 : Nat) (q0 : Nat) (sv : Nat) (r0 : Nat) (t0 : Nat) (w0 : Nat) (u0 : Nat) (v0 : Nat) (y0 : Nat) (tm : Int32) (hs : Int64) (nw : Nat → Int32) (pr : Nat) (pq : Nat) (pj : Nat) (e4 : nw 4 = nI pr) (hpr : pr ≤ 12) (hpq : pq < pr) (hpj : pj < pr) : Ctr l D cI cR yX3_mayPrecede cX3_mayPrecede 3 ((some .int)) ({ frames := 2, cells := 0, slots := 0, locals := 46 }) [.ref m0, .int (nI pq), .int (nI pj)] [(m0, .inr (3, [.ref n0, .ref q0, .int (nI sv), .ref r0, .ref t0, .ref w0, .ref u0, .ref v0, .ref y0, .int tm, .long hs])), (n0, .inl (cI, 148, .inl nw))] (rP (some (.int (if mayF nw pq pj = 0 then 0 else 1))) [(m0, .inr (3, [.ref n0, .ref q0, .int (nI sv), .ref r0, .ref t0, .ref w0, .ref u0, .ref v0, .ref y0, .int tm, .long hs])), (n0, .inl (cI, 148, .inl nw))]) := by
  refine ctr_of (lv0 := [(0, .ref m0), (1, .int (nI pq)), (2, .int (nI pj))]) (by decide) (nle rfl) rfl (fun G C E => ?_)
  refine r_aload_n C dX3_mayPrecede_0 0 rfl ?_
  refine r_iload_n C dX3_mayPrecede_1 1 rfl ?_
  refine r_callV C (As := [.int (nI pq)]) (rest := []) (wr := []) (c_X3_isPrint l D cI cR m0 n0 q0 sv r0 t0 w0 u0 v0 y0 tm hs nw pr (nI pq) (by first | assumption | omega)) k_X3_isPrint rfl dX3_mayPrecede_2 q_517 q_519 q_17 ⟨nle rfl, nle rfl⟩ [0, 1] [] rfl rfl rfl rfl (by decide) 0 rfl rfl rfl (nle rfl) ⟨nle rfl, nle rfl⟩ (r_fin (st2 := [.int (wiF (nI pq) 0 (nI pr - 1))]) (ws2 := [(m0, .inr (3, [.ref n0, .ref q0, .int (nI sv), .ref r0, .ref t0, .ref w0, .ref u0, .ref v0, .ref y0, .int tm, .long hs])), (n0, .inl (cI, 148, .inl nw))]) rfl rfl ?_)
  refine r_if_eq C dX3_mayPrecede_5 (tgt := 33) (by decide) (fun c_1 => ?_) (fun c_1 => ?_)
  · exact absurd c_1 (wi_ok hpq (by omega))
  · refine r_aload_n C dX3_mayPrecede_8 0 rfl ?_
    refine r_iload_n C dX3_mayPrecede_9 2 rfl ?_
    refine r_callV C (As := [.int (nI pj)]) (rest := []) (wr := []) (c_X3_isPrint l D cI cR m0 n0 q0 sv r0 t0 w0 u0 v0 y0 tm hs nw pr (nI pj) (by first | assumption | omega)) k_X3_isPrint rfl dX3_mayPrecede_10 q_517 q_519 q_17 ⟨nle rfl, nle rfl⟩ [0, 1] [] rfl rfl rfl rfl (by decide) 0 rfl rfl rfl (nle rfl) ⟨nle rfl, nle rfl⟩ (r_fin (st2 := [.int (wiF (nI pj) 0 (nI pr - 1))]) (ws2 := [(m0, .inr (3, [.ref n0, .ref q0, .int (nI sv), .ref r0, .ref t0, .ref w0, .ref u0, .ref v0, .ref y0, .int tm, .long hs])), (n0, .inl (cI, 148, .inl nw))]) rfl rfl ?_)
    refine r_if_eq C dX3_mayPrecede_13 (tgt := 33) (by decide) (fun c_2 => ?_) (fun c_2 => ?_)
    · exact absurd c_2 (wi_ok hpj (by omega))
    · refine r_aload_n C dX3_mayPrecede_16 0 rfl ?_
      refine r_iload_n C dX3_mayPrecede_17 1 rfl ?_
      refine r_iload_n C dX3_mayPrecede_18 2 rfl ?_
      refine r_callV C (As := [.int (nI pq), .int (nI pj)]) (rest := []) (wr := []) (c_X3_may l D cI cR m0 n0 q0 sv r0 t0 w0 u0 v0 y0 tm hs nw pq pj (by first | assumption | omega) (by first | assumption | omega)) k_X3_may rfl dX3_mayPrecede_19 q_533 q_535 q_19 ⟨nle rfl, nle rfl⟩ [0, 1] [] rfl rfl rfl rfl (by decide) 0 rfl rfl rfl (nle rfl) ⟨nle rfl, nle rfl⟩ (r_fin (st2 := [.int (mayF nw pq pj)]) (ws2 := [(m0, .inr (3, [.ref n0, .ref q0, .int (nI sv), .ref r0, .ref t0, .ref w0, .ref u0, .ref v0, .ref y0, .int tm, .long hs])), (n0, .inl (cI, 148, .inl nw))]) rfl rfl ?_)
      have J_5 : ∀ (v_4 : Int32), v_4 = (if (mayF nw pq pj) = 0 then (0 : Int32) else 1) → Wr G 0 0 39 [(0, .ref m0), (1, .int (nI pq)), (2, .int (nI pj))] [.int v_4] [(m0, .inr (3, [.ref n0, .ref q0, .int (nI sv), .ref r0, .ref t0, .ref w0, .ref u0, .ref v0, .ref y0, .int tm, .long hs])), (n0, .inl (cI, 148, .inl nw))] := by
        intro v_4 ev_4
        subst ev_4
        exact r_iret C E dX3_mayPrecede_39 (nle rfl) (nle rfl) ⟨(by first | rfl | simp only [Nat.add, if_neg c_1, if_neg c_2]), (by first | rfl | simp only [Nat.add, if_neg c_1, if_neg c_2])⟩
      refine r_if_eq C dX3_mayPrecede_22 (tgt := 29) (by decide) (fun c_3 => ?_) (fun c_3 => ?_)
      · refine r_iconst C dX3_mayPrecede_29 (v := 0) (by decide) ?_
        refine r_goto C dX3_mayPrecede_30 (tgt := 39) (by decide) ?_
        exact J_5 _ (by first | rfl | simp only [if_pos c_3])
      · refine r_iconst C dX3_mayPrecede_25 (v := 1) (by decide) ?_
        refine r_goto C dX3_mayPrecede_26 (tgt := 39) (by decide) ?_
        exact J_5 _ (by first | rfl | simp only [if_neg c_3])
set_option maxHeartbeats 4000000 in
set_option maxRecDepth 100000 in
/-- mayPrecede, out of range -/
theorem c_X3_mayPrecede_no (l : Launch) (D : va_G) (cI cR : ClassId) (m0 : Nat) (n0 : Nat) (q0 : Nat) (sv : Nat) (r0 : Nat) (t0 : Nat) (w0 : Nat) (u0 : Nat) (v0 : Nat) (y0 : Nat) (tm : Int32) (hs : Int64) (nw : Nat → Int32) (pr : Nat) (er : Nat → Int32) (lx : Int32) (kx : Int32) (e4 : nw 4 = nI pr) (hv : ¬ (¬ wiF lx 0 (nI pr - 1) = 0 ∧ ¬ wiF kx 0 (nI pr - 1) = 0)) : Ctr l D cI cR yX3_mayPrecede cX3_mayPrecede 3 ((some .int)) ({ frames := 2, cells := 0, slots := 0, locals := 46 }) [.ref m0, .int lx, .int kx] [(m0, .inr (3, [.ref n0, .ref q0, .int (nI sv), .ref r0, .ref t0, .ref w0, .ref u0, .ref v0, .ref y0, .int tm, .long hs])), (n0, .inl (cI, 148, .inl nw)), (r0, .inl (cI, 4, .inl er))] (rP (some (.int (-2))) [(m0, .inr (3, [.ref n0, .ref q0, .int (nI sv), .ref r0, .ref t0, .ref w0, .ref u0, .ref v0, .ref y0, .int tm, .long hs])), (n0, .inl (cI, 148, .inl nw)), (r0, .inl (cI, 4, .inl (upd er 0 (er 0 + 1))))]) := by
  refine ctr_of (lv0 := [(0, .ref m0), (1, .int lx), (2, .int kx)]) (by decide) (nle rfl) rfl (fun G C E => ?_)
  refine r_aload_n C dX3_mayPrecede_0 0 rfl ?_
  refine r_iload_n C dX3_mayPrecede_1 1 rfl ?_
  refine r_callV C (As := [.int lx]) (rest := []) (wr := [(r0, .inl (cI, 4, .inl er))]) (c_X3_isPrint l D cI cR m0 n0 q0 sv r0 t0 w0 u0 v0 y0 tm hs nw pr lx (by first | assumption | omega)) k_X3_isPrint rfl dX3_mayPrecede_2 q_517 q_519 q_17 ⟨nle rfl, nle rfl⟩ [0, 1] [2] rfl rfl rfl rfl (by decide) 0 rfl rfl rfl (nle rfl) ⟨nle rfl, nle rfl⟩ (r_fin (st2 := [.int (wiF lx 0 (nI pr - 1))]) (ws2 := [(r0, .inl (cI, 4, .inl er)), (m0, .inr (3, [.ref n0, .ref q0, .int (nI sv), .ref r0, .ref t0, .ref w0, .ref u0, .ref v0, .ref y0, .int tm, .long hs])), (n0, .inl (cI, 148, .inl nw))]) rfl rfl ?_)
  refine r_if_eq C dX3_mayPrecede_5 (tgt := 33) (by decide) (fun hc5 => ?_) (fun hc5 => ?_)
  · refine r_aload_n C dX3_mayPrecede_33 0 rfl ?_
    refine r_bipush C dX3_mayPrecede_34 (v := (-2)) (by decide) ?_
    refine r_callV C (As := [.int (-2)]) (rest := []) (wr := [(n0, .inl (cI, 148, .inl nw))]) (c_X3_fails l D cI cR m0 n0 q0 sv r0 t0 w0 u0 v0 y0 tm hs er (-2) 0 (by decide) (by decide)) k_X3_fails rfl dX3_mayPrecede_36 q_437 q_439 q_14 ⟨nle rfl, nle rfl⟩ [1, 0] [2] rfl rfl rfl rfl (by decide) 0 rfl rfl rfl (nle rfl) ⟨nle rfl, nle rfl⟩ (r_fin (st2 := [.int (-2)]) (ws2 := [(n0, .inl (cI, 148, .inl nw)), (m0, .inr (3, [.ref n0, .ref q0, .int (nI sv), .ref r0, .ref t0, .ref w0, .ref u0, .ref v0, .ref y0, .int tm, .long hs])), (r0, .inl (cI, 4, .inl (upd er 0 (er 0 + 1))))]) rfl rfl ?_)
    refine r_ws [1, 0, 2] (ws2 := [(m0, .inr (3, [.ref n0, .ref q0, .int (nI sv), .ref r0, .ref t0, .ref w0, .ref u0, .ref v0, .ref y0, .int tm, .long hs])), (n0, .inl (cI, 148, .inl nw)), (r0, .inl (cI, 4, .inl (upd er 0 (er 0 + 1))))]) rfl rfl ?_
    exact r_iret C E dX3_mayPrecede_39 (nle rfl) (nle rfl) ⟨rfl, rfl⟩
  · refine r_aload_n C dX3_mayPrecede_8 0 rfl ?_
    refine r_iload_n C dX3_mayPrecede_9 2 rfl ?_
    refine r_callV C (As := [.int kx]) (rest := []) (wr := [(r0, .inl (cI, 4, .inl er))]) (c_X3_isPrint l D cI cR m0 n0 q0 sv r0 t0 w0 u0 v0 y0 tm hs nw pr kx (by first | assumption | omega)) k_X3_isPrint rfl dX3_mayPrecede_10 q_517 q_519 q_17 ⟨nle rfl, nle rfl⟩ [1, 2] [0] rfl rfl rfl rfl (by decide) 0 rfl rfl rfl (nle rfl) ⟨nle rfl, nle rfl⟩ (r_fin (st2 := [.int (wiF kx 0 (nI pr - 1))]) (ws2 := [(r0, .inl (cI, 4, .inl er)), (m0, .inr (3, [.ref n0, .ref q0, .int (nI sv), .ref r0, .ref t0, .ref w0, .ref u0, .ref v0, .ref y0, .int tm, .long hs])), (n0, .inl (cI, 148, .inl nw))]) rfl rfl ?_)
    refine r_if_eq C dX3_mayPrecede_13 (tgt := 33) (by decide) (fun c_1 => ?_) (fun c_1 => ?_)
    · refine r_aload_n C dX3_mayPrecede_33 0 rfl ?_
      refine r_bipush C dX3_mayPrecede_34 (v := (-2)) (by decide) ?_
      refine r_callV C (As := [.int (-2)]) (rest := []) (wr := [(n0, .inl (cI, 148, .inl nw))]) (c_X3_fails l D cI cR m0 n0 q0 sv r0 t0 w0 u0 v0 y0 tm hs er (-2) 0 (by decide) (by decide)) k_X3_fails rfl dX3_mayPrecede_36 q_437 q_439 q_14 ⟨nle rfl, nle rfl⟩ [1, 0] [2] rfl rfl rfl rfl (by decide) 0 rfl rfl rfl (nle rfl) ⟨nle rfl, nle rfl⟩ (r_fin (st2 := [.int (-2)]) (ws2 := [(n0, .inl (cI, 148, .inl nw)), (m0, .inr (3, [.ref n0, .ref q0, .int (nI sv), .ref r0, .ref t0, .ref w0, .ref u0, .ref v0, .ref y0, .int tm, .long hs])), (r0, .inl (cI, 4, .inl (upd er 0 (er 0 + 1))))]) rfl rfl ?_)
      refine r_ws [1, 0, 2] (ws2 := [(m0, .inr (3, [.ref n0, .ref q0, .int (nI sv), .ref r0, .ref t0, .ref w0, .ref u0, .ref v0, .ref y0, .int tm, .long hs])), (n0, .inl (cI, 148, .inl nw)), (r0, .inl (cI, 4, .inl (upd er 0 (er 0 + 1))))]) rfl rfl ?_
      exact r_iret C E dX3_mayPrecede_39 (nle rfl) (nle rfl) ⟨rfl, rfl⟩
    · exact absurd ⟨hc5, c_1⟩ hv
set_option maxHeartbeats 4000000 in
set_option maxRecDepth 100000 in
/-- ordersOf(prints) -/
theorem c_X3_ordersOf (l : Launch) (D : va_G) (cI cR : ClassId) (m0 : Nat) (n0 : Nat) (q0 : Nat) (sv : Nat) (r0 : Nat) (t0 : Nat) (w0 : Nat) (u0 : Nat) (v0 : Nat) (y0 : Nat) (tm : Int32) (hs : Int64) (nw : Nat → Int32) (wy : Nat → Int32) (ah : Nat → Int32) (pr : Nat) (pn : Nat) (e4 : nw 4 = nI pr) (hpr : pr ≤ 12) (hpn : pn < 4096) : Ctr l D cI cR yX3_ordersOf cX3_ordersOf 5 ((some .int)) ({ frames := 2, cells := 0, slots := 0, locals := 46 }) [.ref m0, .int (nI pn)] [(m0, .inr (3, [.ref n0, .ref q0, .int (nI sv), .ref r0, .ref t0, .ref w0, .ref u0, .ref v0, .ref y0, .int tm, .long hs])), (n0, .inl (cI, 148, .inl nw)), (w0, .inl (cI, 4096, .inl wy)), (u0, .inl (cI, 12, .inl ah))] (rP (some (.int (wyO (ahO ah nw pr pr) wy pr pn pn))) [(m0, .inr (3, [.ref n0, .ref q0, .int (nI sv), .ref r0, .ref t0, .ref w0, .ref u0, .ref v0, .ref y0, .int tm, .long hs])), (n0, .inl (cI, 148, .inl nw)), (w0, .inl (cI, 4096, .inl (wyO (ahO ah nw pr pr) wy pr pn))), (u0, .inl (cI, 12, .inl (ahO ah nw pr pr)))]) := by
  refine ctr_of (lv0 := [(0, .ref m0), (1, .int (nI pn))]) (by decide) (nle rfl) rfl (fun G C E => ?_)
  refine r_iconst C dX3_ordersOf_0 (v := 0) (by decide) ?_
  refine r_istore_n C dX3_ordersOf_1 (lv2 := [(2, .int 0), (0, .ref m0), (1, .int (nI pn))]) (by decide) rfl ?_
  have L_2 : ∀ (z i : Nat), i ≤ pr → pr < i + z → ∀ (u : Nat → Int32), u = ahO ah nw pr i → Wr G 0 0 2 [(2, .int (nI i)), (0, .ref m0), (1, .int (nI pn))] [] [(m0, .inr (3, [.ref n0, .ref q0, .int (nI sv), .ref r0, .ref t0, .ref w0, .ref u0, .ref v0, .ref y0, .int tm, .long hs])), (n0, .inl (cI, 148, .inl nw)), (w0, .inl (cI, 4096, .inl wy)), (u0, .inl (cI, 12, .inl u))] := by
    intro z
    induction z with
    | zero => intro i h1 h2; exact absurd h2 (by omega)
    | succ z ih_2 =>
      intro i hi_2 hz_2 u e_u
      refine r_iload_n C dX3_ordersOf_2 0 rfl ?_
      refine r_aload_n C dX3_ordersOf_3 1 rfl ?_
      refine r_get C clX3 dX3_ordersOf_4 0 0 rfl (by decide) q_399 rfl ?_
      refine r_iconst C dX3_ordersOf_7 (v := 4) (by decide) ?_
      refine r_iald C dX3_ordersOf_8 1 rfl 4 rfl (by decide) (by decide) ?_
      refine r_top (b := nI pr) e4 ?_
      refine r_icmp_ge C dX3_ordersOf_9 (tgt := 68) (by decide) (fun c_1 => ?_) (fun c_1 => ?_)
      · have n_2 := (nI_leI (a := pr) (b := i) (by omega) (by omega)).mp c_1
        have ex_2 : pr = i := by omega
        subst ex_2
        subst e_u
        refine r_aload_n C dX3_ordersOf_68 1 rfl ?_
        refine r_get C clX3 dX3_ordersOf_69 0 5 rfl (by decide) q_404 rfl ?_
        refine r_iconst C dX3_ordersOf_72 (v := 0) (by decide) ?_
        refine r_iconst C dX3_ordersOf_73 (v := 1) (by decide) ?_
        refine r_iast C dX3_ordersOf_74 2 rfl 0 rfl (by decide) (by decide) (ws2 := [(m0, .inr (3, [.ref n0, .ref q0, .int (nI sv), .ref r0, .ref t0, .ref w0, .ref u0, .ref v0, .ref y0, .int tm, .long hs])), (n0, .inl (cI, 148, .inl nw)), (w0, .inl (cI, 4096, .inl (upd wy 0 1))), (u0, .inl (cI, 12, .inl (ahO ah nw pr pr)))]) rfl ?_
        refine r_iconst C dX3_ordersOf_75 (v := 1) (by decide) ?_
        refine r_istore_n C dX3_ordersOf_76 (lv2 := [(2, .int 1), (0, .ref m0), (1, .int (nI pn))]) (by decide) rfl ?_
        have L_77 : ∀ (z i : Nat), i ≤ pn → pn < i + z → ∀ (y : Nat → Int32), y = wyO (ahO ah nw pr pr) wy pr i → Wr G 0 0 77 [(2, .int (nI (i + 1))), (0, .ref m0), (1, .int (nI pn))] [] [(m0, .inr (3, [.ref n0, .ref q0, .int (nI sv), .ref r0, .ref t0, .ref w0, .ref u0, .ref v0, .ref y0, .int tm, .long hs])), (n0, .inl (cI, 148, .inl nw)), (w0, .inl (cI, 4096, .inl y)), (u0, .inl (cI, 12, .inl (ahO ah nw pr pr)))] := by
          intro z
          induction z with
          | zero => intro i h1 h2; exact absurd h2 (by omega)
          | succ z ih_77 =>
            intro i hi_77 hz_77 y e_y
            refine r_iload_n C dX3_ordersOf_77 0 rfl ?_
            refine r_iload_n C dX3_ordersOf_78 2 rfl ?_
            refine r_icmp_gt C dX3_ordersOf_79 (tgt := 172) (by decide) (fun c_3 => ?_) (fun c_3 => ?_)
            · have n_4 := (nI_ltI (a := pn) (b := i + 1) (by omega) (by omega)).mp c_3
              have ex_77 : pn = i := by omega
              subst ex_77
              subst e_y
              refine r_aload_n C dX3_ordersOf_172 1 rfl ?_
              refine r_get C clX3 dX3_ordersOf_173 0 5 rfl (by decide) q_404 rfl ?_
              refine r_iload_n C dX3_ordersOf_176 2 rfl ?_
              refine r_iald C dX3_ordersOf_177 2 rfl pn rfl (by omega) (by decide) ?_
              exact r_iret C E dX3_ordersOf_178 (nle rfl) (nle rfl) ⟨rfl, rfl⟩
            · have n_4 := mt (nI_ltI (a := pn) (b := i + 1) (by omega) (by omega)).mpr c_3
              refine r_aload_n C dX3_ordersOf_82 1 rfl ?_
              refine r_get C clX3 dX3_ordersOf_83 0 5 rfl (by decide) q_404 rfl ?_
              refine r_iload_n C dX3_ordersOf_86 0 rfl ?_
              refine r_iconst C dX3_ordersOf_87 (v := 0) (by decide) ?_
              refine r_iast C dX3_ordersOf_88 2 rfl (i + 1) rfl (by omega) (by decide) (ws2 := [(m0, .inr (3, [.ref n0, .ref q0, .int (nI sv), .ref r0, .ref t0, .ref w0, .ref u0, .ref v0, .ref y0, .int tm, .long hs])), (n0, .inl (cI, 148, .inl nw)), (w0, .inl (cI, 4096, .inl (upd y (i + 1) 0))), (u0, .inl (cI, 12, .inl (ahO ah nw pr pr)))]) rfl ?_
              refine r_iconst C dX3_ordersOf_89 (v := 0) (by decide) ?_
              refine r_istore_n C dX3_ordersOf_90 (lv2 := [(3, .int 0), (2, .int (nI (i + 1))), (0, .ref m0), (1, .int (nI pn))]) (by decide) rfl ?_
              have L_91 : ∀ (z w : Nat), w ≤ pr → pr < w + z → ∀ (y2 : Nat → Int32), y2 = wyW (ahO ah nw pr pr) (upd y (i + 1) 0) (i + 1) w → Wr G 0 0 91 [(3, .int (nI w)), (2, .int (nI (i + 1))), (0, .ref m0), (1, .int (nI pn))] [] [(m0, .inr (3, [.ref n0, .ref q0, .int (nI sv), .ref r0, .ref t0, .ref w0, .ref u0, .ref v0, .ref y0, .int tm, .long hs])), (n0, .inl (cI, 148, .inl nw)), (w0, .inl (cI, 4096, .inl y2)), (u0, .inl (cI, 12, .inl (ahO ah nw pr pr)))] := by
                intro z
                induction z with
                | zero => intro w h1 h2; exact absurd h2 (by omega)
                | succ z ih_91 =>
                  intro w hi_91 hz_91 y2 e_y2
                  refine r_iload_n C dX3_ordersOf_91 0 rfl ?_
                  refine r_aload_n C dX3_ordersOf_92 2 rfl ?_
                  refine r_get C clX3 dX3_ordersOf_93 0 0 rfl (by decide) q_399 rfl ?_
                  refine r_iconst C dX3_ordersOf_96 (v := 4) (by decide) ?_
                  refine r_iald C dX3_ordersOf_97 1 rfl 4 rfl (by decide) (by decide) ?_
                  refine r_top (b := nI pr) e4 ?_
                  refine r_icmp_ge C dX3_ordersOf_98 (tgt := 166) (by decide) (fun c_5 => ?_) (fun c_5 => ?_)
                  · have n_6 := (nI_leI (a := pr) (b := w) (by omega) (by omega)).mp c_5
                    have ex_91 : pr = w := by omega
                    subst ex_91
                    subst e_y2
                    refine r_iinc C dX3_ordersOf_166 1 rfl (v := nI (i + 1 + 1)) (nI_1 _) (by decide) (lv2 := [(2, .int (nI (i + 1 + 1))), (3, .int (nI pr)), (0, .ref m0), (1, .int (nI pn))]) rfl ?_
                    refine r_goto C dX3_ordersOf_169 (tgt := 77) (by decide) ?_
                    refine r_lv [0, 2, 3] (lv2 := [(2, .int (nI (i + 1 + 1))), (0, .ref m0), (1, .int (nI pn))]) rfl ?_
                    exact ih_77 (i + 1) (by omega) (by omega) _ (by subst e_y; rfl) 
                  · have n_6 := mt (nI_leI (a := pr) (b := w) (by omega) (by omega)).mpr c_5
                    refine r_iload_n C dX3_ordersOf_101 1 rfl ?_
                    refine r_iload_n C dX3_ordersOf_102 0 rfl ?_
                    refine r_ishr C dX3_ordersOf_103 ?_
                    refine r_iconst C dX3_ordersOf_104 (v := 1) (by decide) ?_
                    refine r_iand C dX3_ordersOf_105 ?_
                    refine r_iconst C dX3_ordersOf_106 (v := 1) (by decide) ?_
                    have J_10 : ∀ (v_9 : Int32), v_9 = (if (((nI (i + 1)) >>> (nI w &&& 31)) &&& 1) = 1 then (if ((nI (i + 1)) &&& (((ahO ah nw pr pr) w) ^^^ (-1))) = 0 then (1 : Int32) else 0) else 0) → Wr G 0 0 128 [(3, .int (nI w)), (2, .int (nI (i + 1))), (0, .ref m0), (1, .int (nI pn))] [.int v_9] [(m0, .inr (3, [.ref n0, .ref q0, .int (nI sv), .ref r0, .ref t0, .ref w0, .ref u0, .ref v0, .ref y0, .int tm, .long hs])), (n0, .inl (cI, 148, .inl nw)), (w0, .inl (cI, 4096, .inl y2)), (u0, .inl (cI, 12, .inl (ahO ah nw pr pr)))] := by
                      intro v_9 ev_9
                      subst ev_9
                      refine r_istore C dX3_ordersOf_128 (lv2 := [(4, .int (if (((nI (i + 1)) >>> (nI w &&& 31)) &&& 1) = 1 then (if ((nI (i + 1)) &&& (((ahO ah nw pr pr) w) ^^^ (-1))) = 0 then (1 : Int32) else 0) else 0)), (3, .int (nI w)), (2, .int (nI (i + 1))), (0, .ref m0), (1, .int (nI pn))]) (by decide) rfl ?_
                      refine r_aload_n C dX3_ordersOf_130 3 rfl ?_
                      refine r_get C clX3 dX3_ordersOf_131 0 5 rfl (by decide) q_404 rfl ?_
                      refine r_iload_n C dX3_ordersOf_134 2 rfl ?_
                      refine r_dup2 C dX3_ordersOf_135 rfl rfl ?_
                      refine r_iald C dX3_ordersOf_136 2 rfl (i + 1) rfl (by omega) (by decide) ?_
                      refine r_iload C dX3_ordersOf_137 0 rfl ?_
                      have J_13 : ∀ (v_12 : Int32), v_12 = (if (if (((nI (i + 1)) >>> (nI w &&& 31)) &&& 1) = 1 then (if ((nI (i + 1)) &&& (((ahO ah nw pr pr) w) ^^^ (-1))) = 0 then (1 : Int32) else 0) else 0) = 0 then (0 : Int32) else (y2 (ixF (i + 1) w))) → Wr G 0 0 158 [(4, .int (if (((nI (i + 1)) >>> (nI w &&& 31)) &&& 1) = 1 then (if ((nI (i + 1)) &&& (((ahO ah nw pr pr) w) ^^^ (-1))) = 0 then (1 : Int32) else 0) else 0)), (3, .int (nI w)), (2, .int (nI (i + 1))), (0, .ref m0), (1, .int (nI pn))] [.int v_12, .int (y2 (i + 1)), .int (nI (i + 1)), .ref w0] [(m0, .inr (3, [.ref n0, .ref q0, .int (nI sv), .ref r0, .ref t0, .ref w0, .ref u0, .ref v0, .ref y0, .int tm, .long hs])), (n0, .inl (cI, 148, .inl nw)), (w0, .inl (cI, 4096, .inl y2)), (u0, .inl (cI, 12, .inl (ahO ah nw pr pr)))] := by
                        intro v_12 ev_12
                        subst ev_12
                        refine r_iadd C dX3_ordersOf_158 ?_
                        refine r_iast C dX3_ordersOf_159 2 rfl (i + 1) rfl (by omega) (by decide) (ws2 := [(m0, .inr (3, [.ref n0, .ref q0, .int (nI sv), .ref r0, .ref t0, .ref w0, .ref u0, .ref v0, .ref y0, .int tm, .long hs])), (n0, .inl (cI, 148, .inl nw)), (w0, .inl (cI, 4096, .inl (upd y2 (i + 1) ((y2 (i + 1)) + (if (if (((nI (i + 1)) >>> (nI w &&& 31)) &&& 1) = 1 then (if ((nI (i + 1)) &&& (((ahO ah nw pr pr) w) ^^^ (-1))) = 0 then (1 : Int32) else 0) else 0) = 0 then (0 : Int32) else (y2 (ixF (i + 1) w))))))), (u0, .inl (cI, 12, .inl (ahO ah nw pr pr)))]) rfl ?_
                        refine r_iinc C dX3_ordersOf_160 1 rfl (v := nI (w + 1)) (nI_1 _) (by decide) (lv2 := [(3, .int (nI (w + 1))), (4, .int (if (((nI (i + 1)) >>> (nI w &&& 31)) &&& 1) = 1 then (if ((nI (i + 1)) &&& (((ahO ah nw pr pr) w) ^^^ (-1))) = 0 then (1 : Int32) else 0) else 0)), (2, .int (nI (i + 1))), (0, .ref m0), (1, .int (nI pn))]) rfl ?_
                        refine r_goto C dX3_ordersOf_163 (tgt := 91) (by decide) ?_
                        refine r_lv [0, 2, 3, 4] (lv2 := [(3, .int (nI (w + 1))), (2, .int (nI (i + 1))), (0, .ref m0), (1, .int (nI pn))]) rfl ?_
                        exact ih_91 (w + 1) (by omega) (by omega) _ (by subst e_y2; rfl) 
                      refine r_if_eq C dX3_ordersOf_139 (tgt := 157) (by decide) (fun c_11 => ?_) (fun c_11 => ?_)
                      · refine r_iconst C dX3_ordersOf_157 (v := 0) (by decide) ?_
                        exact J_13 _ (by first | rfl | simp only [if_pos c_11])
                      · refine r_aload_n C dX3_ordersOf_142 3 rfl ?_
                        refine r_get C clX3 dX3_ordersOf_143 0 5 rfl (by decide) q_404 rfl ?_
                        refine r_iload_n C dX3_ordersOf_146 2 rfl ?_
                        refine r_iconst C dX3_ordersOf_147 (v := 1) (by decide) ?_
                        refine r_iload_n C dX3_ordersOf_148 1 rfl ?_
                        refine r_ishl C dX3_ordersOf_149 ?_
                        refine r_iconst C dX3_ordersOf_150 (v := (-1)) (by decide) ?_
                        refine r_ixor C dX3_ordersOf_151 ?_
                        refine r_iand C dX3_ordersOf_152 ?_
                        refine r_iald C dX3_ordersOf_153 2 rfl (ixF (i + 1) w) (ix_eq (by omega)) (Nat.lt_of_le_of_lt (ix_le (by omega)) (by omega)) (by decide) ?_
                        refine r_goto C dX3_ordersOf_154 (tgt := 158) (by decide) ?_
                        exact J_13 _ (by first | rfl | simp only [if_neg c_11])
                    refine r_icmp_ne C dX3_ordersOf_107 (tgt := 127) (by decide) (fun c_7 => ?_) (fun c_7 => ?_)
                    · refine r_iconst C dX3_ordersOf_127 (v := 0) (by decide) ?_
                      exact J_10 _ (by first | rfl | simp only [if_neg c_7])
                    · refine r_iload_n C dX3_ordersOf_110 1 rfl ?_
                      refine r_aload_n C dX3_ordersOf_111 2 rfl ?_
                      refine r_get C clX3 dX3_ordersOf_112 0 6 rfl (by decide) q_405 rfl ?_
                      refine r_iload_n C dX3_ordersOf_115 0 rfl ?_
                      refine r_iald C dX3_ordersOf_116 3 rfl w rfl (by omega) (by decide) ?_
                      refine r_iconst C dX3_ordersOf_117 (v := (-1)) (by decide) ?_
                      refine r_ixor C dX3_ordersOf_118 ?_
                      refine r_iand C dX3_ordersOf_119 ?_
                      refine r_if_ne C dX3_ordersOf_120 (tgt := 127) (by decide) (fun c_8 => ?_) (fun c_8 => ?_)
                      · refine r_iconst C dX3_ordersOf_127 (v := 0) (by decide) ?_
                        exact J_10 _ (by first | rfl | simp only [if_pos c_7, if_neg c_8])
                      · refine r_iconst C dX3_ordersOf_123 (v := 1) (by decide) ?_
                        refine r_goto C dX3_ordersOf_124 (tgt := 128) (by decide) ?_
                        exact J_10 _ (by first | rfl | simp only [if_pos c_7, if_pos c_8])
              exact L_91 (pr + 1) 0 (by omega) (by omega) _ rfl 
        exact L_77 (pn + 1) 0 (by omega) (by omega) _ rfl 
      · have n_2 := mt (nI_leI (a := pr) (b := i) (by omega) (by omega)).mpr c_1
        refine r_aload_n C dX3_ordersOf_12 1 rfl ?_
        refine r_get C clX3 dX3_ordersOf_13 0 6 rfl (by decide) q_405 rfl ?_
        refine r_iload_n C dX3_ordersOf_16 0 rfl ?_
        refine r_iconst C dX3_ordersOf_17 (v := 0) (by decide) ?_
        refine r_iast C dX3_ordersOf_18 3 rfl i rfl (by omega) (by decide) (ws2 := [(m0, .inr (3, [.ref n0, .ref q0, .int (nI sv), .ref r0, .ref t0, .ref w0, .ref u0, .ref v0, .ref y0, .int tm, .long hs])), (n0, .inl (cI, 148, .inl nw)), (w0, .inl (cI, 4096, .inl wy)), (u0, .inl (cI, 12, .inl (upd u i 0)))]) rfl ?_
        refine r_iconst C dX3_ordersOf_19 (v := 0) (by decide) ?_
        refine r_istore_n C dX3_ordersOf_20 (lv2 := [(3, .int 0), (2, .int (nI i)), (0, .ref m0), (1, .int (nI pn))]) (by decide) rfl ?_
        have L_21 : ∀ (z w : Nat), w ≤ pr → pr < w + z → ∀ (u2 : Nat → Int32), u2 = ahW (upd u i 0) nw i w → Wr G 0 0 21 [(3, .int (nI w)), (2, .int (nI i)), (0, .ref m0), (1, .int (nI pn))] [] [(m0, .inr (3, [.ref n0, .ref q0, .int (nI sv), .ref r0, .ref t0, .ref w0, .ref u0, .ref v0, .ref y0, .int tm, .long hs])), (n0, .inl (cI, 148, .inl nw)), (w0, .inl (cI, 4096, .inl wy)), (u0, .inl (cI, 12, .inl u2))] := by
          intro z
          induction z with
          | zero => intro w h1 h2; exact absurd h2 (by omega)
          | succ z ih_21 =>
            intro w hi_21 hz_21 u2 e_u2
            refine r_iload_n C dX3_ordersOf_21 0 rfl ?_
            refine r_aload_n C dX3_ordersOf_22 2 rfl ?_
            refine r_get C clX3 dX3_ordersOf_23 0 0 rfl (by decide) q_399 rfl ?_
            refine r_iconst C dX3_ordersOf_26 (v := 4) (by decide) ?_
            refine r_iald C dX3_ordersOf_27 1 rfl 4 rfl (by decide) (by decide) ?_
            refine r_top (b := nI pr) e4 ?_
            refine r_icmp_ge C dX3_ordersOf_28 (tgt := 62) (by decide) (fun c_14 => ?_) (fun c_14 => ?_)
            · have n_15 := (nI_leI (a := pr) (b := w) (by omega) (by omega)).mp c_14
              have ex_21 : pr = w := by omega
              subst ex_21
              subst e_u2
              refine r_iinc C dX3_ordersOf_62 1 rfl (v := nI (i + 1)) (nI_1 _) (by decide) (lv2 := [(2, .int (nI (i + 1))), (3, .int (nI pr)), (0, .ref m0), (1, .int (nI pn))]) rfl ?_
              refine r_goto C dX3_ordersOf_65 (tgt := 2) (by decide) ?_
              refine r_lv [0, 2, 3] (lv2 := [(2, .int (nI (i + 1))), (0, .ref m0), (1, .int (nI pn))]) rfl ?_
              exact ih_2 (i + 1) (by omega) (by omega) _ (by subst e_u; rfl) 
            · have n_15 := mt (nI_leI (a := pr) (b := w) (by omega) (by omega)).mpr c_14
              refine r_aload_n C dX3_ordersOf_31 2 rfl ?_
              refine r_get C clX3 dX3_ordersOf_32 0 6 rfl (by decide) q_405 rfl ?_
              refine r_iload_n C dX3_ordersOf_35 1 rfl ?_
              refine r_dup2 C dX3_ordersOf_36 rfl rfl ?_
              refine r_iald C dX3_ordersOf_37 3 rfl i rfl (by omega) (by decide) ?_
              refine r_aload_n C dX3_ordersOf_38 2 rfl ?_
              refine r_iload_n C dX3_ordersOf_39 0 rfl ?_
              refine r_iload_n C dX3_ordersOf_40 1 rfl ?_
              refine r_callV C (As := [.int (nI w), .int (nI i)]) (rest := [.int (u2 i), .int (nI i), .ref u0]) (wr := [(w0, .inl (cI, 4096, .inl wy)), (u0, .inl (cI, 12, .inl u2))]) (c_X3_may l D cI cR m0 n0 q0 sv r0 t0 w0 u0 v0 y0 tm hs nw w i (by first | assumption | omega) (by first | assumption | omega)) k_X3_may rfl dX3_ordersOf_41 q_533 q_535 q_19 ⟨nle rfl, nle rfl⟩ [0, 1] [2, 3] rfl rfl rfl rfl (by decide) 0 rfl rfl rfl (nle rfl) ⟨nle rfl, nle rfl⟩ (r_fin (st2 := [.int (mayF nw w i), .int (u2 i), .int (nI i), .ref u0]) (ws2 := [(w0, .inl (cI, 4096, .inl wy)), (u0, .inl (cI, 12, .inl u2)), (m0, .inr (3, [.ref n0, .ref q0, .int (nI sv), .ref r0, .ref t0, .ref w0, .ref u0, .ref v0, .ref y0, .int tm, .long hs])), (n0, .inl (cI, 148, .inl nw))]) rfl rfl ?_)
              have J_18 : ∀ (v_17 : Int32), v_17 = (if (mayF nw w i) = 0 then (0 : Int32) else (1 <<< (nI w &&& 31))) → Wr G 0 0 54 [(3, .int (nI w)), (2, .int (nI i)), (0, .ref m0), (1, .int (nI pn))] [.int v_17, .int (u2 i), .int (nI i), .ref u0] [(w0, .inl (cI, 4096, .inl wy)), (u0, .inl (cI, 12, .inl u2)), (m0, .inr (3, [.ref n0, .ref q0, .int (nI sv), .ref r0, .ref t0, .ref w0, .ref u0, .ref v0, .ref y0, .int tm, .long hs])), (n0, .inl (cI, 148, .inl nw))] := by
                intro v_17 ev_17
                subst ev_17
                refine r_ior C dX3_ordersOf_54 ?_
                refine r_iast C dX3_ordersOf_55 1 rfl i rfl (by omega) (by decide) (ws2 := [(w0, .inl (cI, 4096, .inl wy)), (u0, .inl (cI, 12, .inl (upd u2 i ((u2 i) ||| (if (mayF nw w i) = 0 then (0 : Int32) else (1 <<< (nI w &&& 31))))))), (m0, .inr (3, [.ref n0, .ref q0, .int (nI sv), .ref r0, .ref t0, .ref w0, .ref u0, .ref v0, .ref y0, .int tm, .long hs])), (n0, .inl (cI, 148, .inl nw))]) rfl ?_
                refine r_iinc C dX3_ordersOf_56 0 rfl (v := nI (w + 1)) (nI_1 _) (by decide) (lv2 := [(3, .int (nI (w + 1))), (2, .int (nI i)), (0, .ref m0), (1, .int (nI pn))]) rfl ?_
                refine r_goto C dX3_ordersOf_59 (tgt := 21) (by decide) ?_
                refine r_ws [2, 3, 0, 1] (ws2 := [(m0, .inr (3, [.ref n0, .ref q0, .int (nI sv), .ref r0, .ref t0, .ref w0, .ref u0, .ref v0, .ref y0, .int tm, .long hs])), (n0, .inl (cI, 148, .inl nw)), (w0, .inl (cI, 4096, .inl wy)), (u0, .inl (cI, 12, .inl (upd u2 i ((u2 i) ||| (if (mayF nw w i) = 0 then (0 : Int32) else (1 <<< (nI w &&& 31)))))))]) rfl rfl ?_
                exact ih_21 (w + 1) (by omega) (by omega) _ (by subst e_u2; rfl) 
              refine r_if_eq C dX3_ordersOf_44 (tgt := 53) (by decide) (fun c_16 => ?_) (fun c_16 => ?_)
              · refine r_iconst C dX3_ordersOf_53 (v := 0) (by decide) ?_
                exact J_18 _ (by first | rfl | simp only [if_pos c_16])
              · refine r_iconst C dX3_ordersOf_47 (v := 1) (by decide) ?_
                refine r_iload_n C dX3_ordersOf_48 0 rfl ?_
                refine r_ishl C dX3_ordersOf_49 ?_
                refine r_goto C dX3_ordersOf_50 (tgt := 54) (by decide) ?_
                exact J_18 _ (by first | rfl | simp only [if_neg c_16])
        exact L_21 (pr + 1) 0 (by omega) (by omega) _ rfl 
  exact L_2 (pr + 1) 0 (by omega) (by omega) _ rfl 
set_option maxHeartbeats 4000000 in
set_option maxRecDepth 100000 in
/-- orders, in range -/
theorem c_X3_orders_ok (l : Launch) (D : va_G) (cI cR : ClassId) (m0 : Nat) (n0 : Nat) (q0 : Nat) (sv : Nat) (r0 : Nat) (t0 : Nat) (w0 : Nat) (u0 : Nat) (v0 : Nat) (y0 : Nat) (tm : Int32) (hs : Int64) (nw : Nat → Int32) (wy : Nat → Int32) (ah : Nat → Int32) (pr : Nat) (pn : Nat) (e4 : nw 4 = nI pr) (hpr : pr ≤ 12) (hpn : pn < 4096) (hv : ¬ wiF (nI pn) 0 (abF (nI pr)) = 0) : Ctr l D cI cR yX3_orders cX3_orders 2 ((some .int)) ({ frames := 3, cells := 0, slots := 0, locals := 70 }) [.ref m0, .int (nI pn)] [(m0, .inr (3, [.ref n0, .ref q0, .int (nI sv), .ref r0, .ref t0, .ref w0, .ref u0, .ref v0, .ref y0, .int tm, .long hs])), (n0, .inl (cI, 148, .inl nw)), (w0, .inl (cI, 4096, .inl wy)), (u0, .inl (cI, 12, .inl ah))] (rP (some (.int (wyO (ahO ah nw pr pr) wy pr pn pn))) [(m0, .inr (3, [.ref n0, .ref q0, .int (nI sv), .ref r0, .ref t0, .ref w0, .ref u0, .ref v0, .ref y0, .int tm, .long hs])), (n0, .inl (cI, 148, .inl nw)), (w0, .inl (cI, 4096, .inl (wyO (ahO ah nw pr pr) wy pr pn))), (u0, .inl (cI, 12, .inl (ahO ah nw pr pr)))]) := by
  refine ctr_of (lv0 := [(0, .ref m0), (1, .int (nI pn))]) (by decide) (nle rfl) rfl (fun G C E => ?_)
  refine r_iload_n C dX3_orders_0 1 rfl ?_
  refine r_iconst C dX3_orders_1 (v := 0) (by decide) ?_
  refine r_iconst C dX3_orders_2 (v := 1) (by decide) ?_
  refine r_aload_n C dX3_orders_3 0 rfl ?_
  refine r_get C clX3 dX3_orders_4 0 0 rfl (by decide) q_399 rfl ?_
  refine r_iconst C dX3_orders_7 (v := 4) (by decide) ?_
  refine r_iald C dX3_orders_8 1 rfl 4 rfl (by decide) (by decide) ?_
  refine r_top (b := nI pr) e4 ?_
  refine r_ishl C dX3_orders_9 ?_
  refine r_iconst C dX3_orders_10 (v := 1) (by decide) ?_
  refine r_isub C dX3_orders_11 ?_
  refine r_callS C (As := [.int (nI pn), .int 0, .int ((1 <<< (nI pr &&& 31)) - 1)]) (rest := []) (wr := [(m0, .inr (3, [.ref n0, .ref q0, .int (nI sv), .ref r0, .ref t0, .ref w0, .ref u0, .ref v0, .ref y0, .int tm, .long hs])), (n0, .inl (cI, 148, .inl nw)), (w0, .inl (cI, 4096, .inl wy)), (u0, .inl (cI, 12, .inl ah))]) (c_X3_within l D cI cR (nI pn) 0 ((1 <<< (nI pr &&& 31)) - 1) ) k_X3_within rfl dX3_orders_12 q_453 q_454 ⟨nle rfl, nle rfl⟩ [] [0, 1, 2, 3] rfl rfl rfl rfl (by decide) rfl (nle rfl) ⟨nle rfl, nle rfl⟩ (r_fin (st2 := [.int (wiF (nI pn) 0 ((1 <<< (nI pr &&& 31)) - 1))]) (ws2 := [(m0, .inr (3, [.ref n0, .ref q0, .int (nI sv), .ref r0, .ref t0, .ref w0, .ref u0, .ref v0, .ref y0, .int tm, .long hs])), (n0, .inl (cI, 148, .inl nw)), (w0, .inl (cI, 4096, .inl wy)), (u0, .inl (cI, 12, .inl ah))]) rfl rfl ?_)
  refine r_if_eq C dX3_orders_15 (tgt := 26) (by decide) (fun c_1 => ?_) (fun c_1 => ?_)
  · exact absurd c_1 hv
  · refine r_aload_n C dX3_orders_18 0 rfl ?_
    refine r_iload_n C dX3_orders_19 1 rfl ?_
    refine r_callV C (As := [.int (nI pn)]) (rest := []) (wr := []) (c_X3_ordersOf l D cI cR m0 n0 q0 sv r0 t0 w0 u0 v0 y0 tm hs nw wy ah pr pn (by first | assumption | omega) (by first | assumption | omega) (by first | assumption | omega)) k_X3_ordersOf rfl dX3_orders_20 q_541 q_543 q_20 ⟨nle rfl, nle rfl⟩ [0, 1, 2, 3] [] rfl rfl rfl rfl (by decide) 0 rfl rfl rfl (nle rfl) ⟨nle rfl, nle rfl⟩ (r_fin (st2 := [.int (wyO (ahO ah nw pr pr) wy pr pn pn)]) (ws2 := [(m0, .inr (3, [.ref n0, .ref q0, .int (nI sv), .ref r0, .ref t0, .ref w0, .ref u0, .ref v0, .ref y0, .int tm, .long hs])), (n0, .inl (cI, 148, .inl nw)), (w0, .inl (cI, 4096, .inl (wyO (ahO ah nw pr pr) wy pr pn))), (u0, .inl (cI, 12, .inl (ahO ah nw pr pr)))]) rfl rfl ?_)
    refine r_goto C dX3_orders_23 (tgt := 32) (by decide) ?_
    exact r_iret C E dX3_orders_32 (nle rfl) (nle rfl) ⟨rfl, rfl⟩
set_option maxHeartbeats 4000000 in
set_option maxRecDepth 100000 in
/-- orders, out of range -/
theorem c_X3_orders_no (l : Launch) (D : va_G) (cI cR : ClassId) (m0 : Nat) (n0 : Nat) (q0 : Nat) (sv : Nat) (r0 : Nat) (t0 : Nat) (w0 : Nat) (u0 : Nat) (v0 : Nat) (y0 : Nat) (tm : Int32) (hs : Int64) (nw : Nat → Int32) (pr : Nat) (er : Nat → Int32) (vx : Int32) (e4 : nw 4 = nI pr) (hv : wiF vx 0 (abF (nI pr)) = 0) : Ctr l D cI cR yX3_orders cX3_orders 2 ((some .int)) ({ frames := 3, cells := 0, slots := 0, locals := 70 }) [.ref m0, .int vx] [(m0, .inr (3, [.ref n0, .ref q0, .int (nI sv), .ref r0, .ref t0, .ref w0, .ref u0, .ref v0, .ref y0, .int tm, .long hs])), (n0, .inl (cI, 148, .inl nw)), (r0, .inl (cI, 4, .inl er))] (rP (some (.int (-2))) [(m0, .inr (3, [.ref n0, .ref q0, .int (nI sv), .ref r0, .ref t0, .ref w0, .ref u0, .ref v0, .ref y0, .int tm, .long hs])), (n0, .inl (cI, 148, .inl nw)), (r0, .inl (cI, 4, .inl (upd er 0 (er 0 + 1))))]) := by
  refine ctr_of (lv0 := [(0, .ref m0), (1, .int vx)]) (by decide) (nle rfl) rfl (fun G C E => ?_)
  refine r_iload_n C dX3_orders_0 1 rfl ?_
  refine r_iconst C dX3_orders_1 (v := 0) (by decide) ?_
  refine r_iconst C dX3_orders_2 (v := 1) (by decide) ?_
  refine r_aload_n C dX3_orders_3 0 rfl ?_
  refine r_get C clX3 dX3_orders_4 0 0 rfl (by decide) q_399 rfl ?_
  refine r_iconst C dX3_orders_7 (v := 4) (by decide) ?_
  refine r_iald C dX3_orders_8 1 rfl 4 rfl (by decide) (by decide) ?_
  refine r_top (b := nI pr) e4 ?_
  refine r_ishl C dX3_orders_9 ?_
  refine r_iconst C dX3_orders_10 (v := 1) (by decide) ?_
  refine r_isub C dX3_orders_11 ?_
  refine r_callS C (As := [.int vx, .int 0, .int ((1 <<< (nI pr &&& 31)) - 1)]) (rest := []) (wr := [(m0, .inr (3, [.ref n0, .ref q0, .int (nI sv), .ref r0, .ref t0, .ref w0, .ref u0, .ref v0, .ref y0, .int tm, .long hs])), (n0, .inl (cI, 148, .inl nw)), (r0, .inl (cI, 4, .inl er))]) (c_X3_within l D cI cR vx 0 ((1 <<< (nI pr &&& 31)) - 1) ) k_X3_within rfl dX3_orders_12 q_453 q_454 ⟨nle rfl, nle rfl⟩ [] [0, 1, 2] rfl rfl rfl rfl (by decide) rfl (nle rfl) ⟨nle rfl, nle rfl⟩ (r_fin (st2 := [.int (wiF vx 0 ((1 <<< (nI pr &&& 31)) - 1))]) (ws2 := [(m0, .inr (3, [.ref n0, .ref q0, .int (nI sv), .ref r0, .ref t0, .ref w0, .ref u0, .ref v0, .ref y0, .int tm, .long hs])), (n0, .inl (cI, 148, .inl nw)), (r0, .inl (cI, 4, .inl er))]) rfl rfl ?_)
  refine r_if_eq C dX3_orders_15 (tgt := 26) (by decide) (fun c_1 => ?_) (fun c_1 => ?_)
  · refine r_aload_n C dX3_orders_26 0 rfl ?_
    refine r_bipush C dX3_orders_27 (v := (-2)) (by decide) ?_
    refine r_callV C (As := [.int (-2)]) (rest := []) (wr := [(n0, .inl (cI, 148, .inl nw))]) (c_X3_fails l D cI cR m0 n0 q0 sv r0 t0 w0 u0 v0 y0 tm hs er (-2) 0 (by decide) (by decide)) k_X3_fails rfl dX3_orders_29 q_437 q_439 q_14 ⟨nle rfl, nle rfl⟩ [0, 2] [1] rfl rfl rfl rfl (by decide) 0 rfl rfl rfl (nle rfl) ⟨nle rfl, nle rfl⟩ (r_fin (st2 := [.int (-2)]) (ws2 := [(n0, .inl (cI, 148, .inl nw)), (m0, .inr (3, [.ref n0, .ref q0, .int (nI sv), .ref r0, .ref t0, .ref w0, .ref u0, .ref v0, .ref y0, .int tm, .long hs])), (r0, .inl (cI, 4, .inl (upd er 0 (er 0 + 1))))]) rfl rfl ?_)
    refine r_ws [1, 0, 2] (ws2 := [(m0, .inr (3, [.ref n0, .ref q0, .int (nI sv), .ref r0, .ref t0, .ref w0, .ref u0, .ref v0, .ref y0, .int tm, .long hs])), (n0, .inl (cI, 148, .inl nw)), (r0, .inl (cI, 4, .inl (upd er 0 (er 0 + 1))))]) rfl rfl ?_
    exact r_iret C E dX3_orders_32 (nle rfl) (nle rfl) ⟨rfl, rfl⟩
  · exact absurd hv c_1
set_option maxHeartbeats 4000000 in
set_option maxRecDepth 100000 in
/-- bestState() -/
theorem c_X3_bestState (l : Launch) (D : va_G) (cI cR : ClassId) (m0 : Nat) (n0 : Nat) (q0 : Nat) (sv : Nat) (r0 : Nat) (t0 : Nat) (w0 : Nat) (u0 : Nat) (v0 : Nat) (y0 : Nat) (tm : Int32) (hs : Int64) (nw : Nat → Int32) (tg : Nat → Int32) (nl : Nat) (pr : Nat) (e0 : nw 0 = nI nl) (e4 : nw 4 = nI pr) (hnl : nl ≤ 10) (hpr : pr ≤ 12) : Ctr l D cI cR yX3_bestState cX3_bestState 7 ((some .int)) ({ frames := 1, cells := 0, slots := 0, locals := 22 }) [.ref m0] [(m0, .inr (3, [.ref n0, .ref q0, .int (nI sv), .ref r0, .ref t0, .ref w0, .ref u0, .ref v0, .ref y0, .int tm, .long hs])), (n0, .inl (cI, 148, .inl nw)), (t0, .inl (cI, 10, .inl tg))] (rP (some (.int (btF nw tg nl pr))) [(m0, .inr (3, [.ref n0, .ref q0, .int (nI sv), .ref r0, .ref t0, .ref w0, .ref u0, .ref v0, .ref y0, .int tm, .long hs])), (n0, .inl (cI, 148, .inl nw)), (t0, .inl (cI, 10, .inl tg))]) := by
  refine ctr_of (lv0 := [(0, .ref m0)]) (by decide) (nle rfl) rfl (fun G C E => ?_)
  refine r_iconst C dX3_bestState_0 (v := (-1)) (by decide) ?_
  refine r_istore_n C dX3_bestState_1 (lv2 := [(1, .int (-1)), (0, .ref m0)]) (by decide) rfl ?_
  refine r_iconst C dX3_bestState_2 (v := 0) (by decide) ?_
  refine r_istore_n C dX3_bestState_3 (lv2 := [(2, .int 0), (1, .int (-1)), (0, .ref m0)]) (by decide) rfl ?_
  refine r_iconst C dX3_bestState_4 (v := 0) (by decide) ?_
  refine r_istore_n C dX3_bestState_5 (lv2 := [(3, .int 0), (2, .int 0), (1, .int (-1)), (0, .ref m0)]) (by decide) rfl ?_
  have L_6 : ∀ (z i : Nat), i ≤ pr → pr < i + z → ∀ (bb : Int32) (le : Int32), bb = btB nw tg nl i → le = btL nw tg nl i → Wr G 0 0 6 [(3, .int (nI i)), (2, .int le), (1, .int bb), (0, .ref m0)] [] [(m0, .inr (3, [.ref n0, .ref q0, .int (nI sv), .ref r0, .ref t0, .ref w0, .ref u0, .ref v0, .ref y0, .int tm, .long hs])), (n0, .inl (cI, 148, .inl nw)), (t0, .inl (cI, 10, .inl tg))] := by
    intro z
    induction z with
    | zero => intro i h1 h2; exact absurd h2 (by omega)
    | succ z ih_6 =>
      intro i hi_6 hz_6 bb le e_bb e_le
      refine r_iload_n C dX3_bestState_6 0 rfl ?_
      refine r_aload_n C dX3_bestState_7 3 rfl ?_
      refine r_get C clX3 dX3_bestState_8 0 0 rfl (by decide) q_399 rfl ?_
      refine r_iconst C dX3_bestState_11 (v := 4) (by decide) ?_
      refine r_iald C dX3_bestState_12 1 rfl 4 rfl (by decide) (by decide) ?_
      refine r_top (b := nI pr) e4 ?_
      refine r_icmp_ge C dX3_bestState_13 (tgt := 96) (by decide) (fun c_1 => ?_) (fun c_1 => ?_)
      · have n_2 := (nI_leI (a := pr) (b := i) (by omega) (by omega)).mp c_1
        have ex_6 : pr = i := by omega
        subst ex_6
        subst e_bb
        subst e_le
        refine r_iload_n C dX3_bestState_96 2 rfl ?_
        refine r_iconst C dX3_bestState_97 (v := (-1)) (by decide) ?_
        have J_4 : ∀ (v_3 : Int32), v_3 = (if (btB nw tg nl pr) = (-1) then (-1 : Int32) else (nw (16 + (btB nw tg nl pr).toNatClampNeg))) → Wr G 0 0 114 [(3, .int (nI pr)), (2, .int (btL nw tg nl pr)), (1, .int (btB nw tg nl pr)), (0, .ref m0)] [.int v_3] [(m0, .inr (3, [.ref n0, .ref q0, .int (nI sv), .ref r0, .ref t0, .ref w0, .ref u0, .ref v0, .ref y0, .int tm, .long hs])), (n0, .inl (cI, 148, .inl nw)), (t0, .inl (cI, 10, .inl tg))] := by
          intro v_3 ev_3
          subst ev_3
          exact r_iret C E dX3_bestState_114 (nle rfl) (nle rfl) ⟨rfl, rfl⟩
        refine r_icmp_ne C dX3_bestState_98 (tgt := 105) (by decide) (fun hbb => ?_) (fun hbb => ?_)
        · refine r_aload_n C dX3_bestState_105 3 rfl ?_
          refine r_get C clX3 dX3_bestState_106 0 0 rfl (by decide) q_399 rfl ?_
          refine r_bipush C dX3_bestState_109 (v := 16) (by decide) ?_
          refine r_iload_n C dX3_bestState_111 2 rfl ?_
          refine r_iadd C dX3_bestState_112 ?_
          refine r_top (b := nI (16 + (btB nw tg nl pr).toNatClampNeg)) (nA rfl (bt_eq hpr hbb)) ?_
          have hbl := bt_lt hpr hbb
          refine r_iald C dX3_bestState_113 1 rfl (16 + (btB nw tg nl pr).toNatClampNeg) rfl (by omega) (by decide) ?_
          exact J_4 _ (by first | rfl | simp only [if_neg hbb])
        · refine r_iconst C dX3_bestState_101 (v := (-1)) (by decide) ?_
          refine r_goto C dX3_bestState_102 (tgt := 114) (by decide) ?_
          exact J_4 _ (by first | rfl | simp only [if_pos hbb])
      · have n_2 := mt (nI_leI (a := pr) (b := i) (by omega) (by omega)).mpr c_1
        refine r_iconst C dX3_bestState_16 (v := 0) (by decide) ?_
        refine r_istore C dX3_bestState_17 (lv2 := [(4, .int 0), (3, .int (nI i)), (2, .int le), (1, .int bb), (0, .ref m0)]) (by decide) rfl ?_
        refine r_iconst C dX3_bestState_19 (v := 0) (by decide) ?_
        refine r_istore C dX3_bestState_20 (lv2 := [(5, .int 0), (4, .int 0), (3, .int (nI i)), (2, .int le), (1, .int bb), (0, .ref m0)]) (by decide) rfl ?_
        have L_22 : ∀ (z w : Nat), w ≤ nl → nl < w + z → ∀ (fa : Int32), fa = dmF nw tg i w → Wr G 0 0 22 [(5, .int (nI w)), (4, .int fa), (3, .int (nI i)), (2, .int le), (1, .int bb), (0, .ref m0)] [] [(m0, .inr (3, [.ref n0, .ref q0, .int (nI sv), .ref r0, .ref t0, .ref w0, .ref u0, .ref v0, .ref y0, .int tm, .long hs])), (n0, .inl (cI, 148, .inl nw)), (t0, .inl (cI, 10, .inl tg))] := by
          intro z
          induction z with
          | zero => intro w h1 h2; exact absurd h2 (by omega)
          | succ z ih_22 =>
            intro w hi_22 hz_22 fa e_fa
            refine r_iload C dX3_bestState_22 0 rfl ?_
            refine r_aload_n C dX3_bestState_24 5 rfl ?_
            refine r_get C clX3 dX3_bestState_25 0 0 rfl (by decide) q_399 rfl ?_
            refine r_iconst C dX3_bestState_28 (v := 0) (by decide) ?_
            refine r_iald C dX3_bestState_29 1 rfl 0 rfl (by decide) (by decide) ?_
            refine r_top (b := nI nl) e0 ?_
            refine r_icmp_ge C dX3_bestState_30 (tgt := 74) (by decide) (fun c_5 => ?_) (fun c_5 => ?_)
            · have n_6 := (nI_leI (a := nl) (b := w) (by omega) (by omega)).mp c_5
              have ex_22 : nl = w := by omega
              subst ex_22
              subst e_fa
              refine r_iload_n C dX3_bestState_74 4 rfl ?_
              refine r_iconst C dX3_bestState_75 (v := (-1)) (by decide) ?_
              have J_11 : ∀ (v_9 : Int32) (v_10 : Int32), v_9 = (if bb = (-1) then (dmF nw tg i nl) else (if le ≤ (dmF nw tg i nl) then le else (dmF nw tg i nl))) → v_10 = (if bb = (-1) then (nI i) else (if le ≤ (dmF nw tg i nl) then bb else (nI i))) → Wr G 0 0 90 [(2, .int v_9), (1, .int v_10), (5, .int (nI nl)), (4, .int (dmF nw tg i nl)), (3, .int (nI i)), (0, .ref m0)] [] [(m0, .inr (3, [.ref n0, .ref q0, .int (nI sv), .ref r0, .ref t0, .ref w0, .ref u0, .ref v0, .ref y0, .int tm, .long hs])), (n0, .inl (cI, 148, .inl nw)), (t0, .inl (cI, 10, .inl tg))] := by
                intro v_9 v_10 ev_9 ev_10
                subst ev_9
                subst ev_10
                refine r_iinc C dX3_bestState_90 4 rfl (v := nI (i + 1)) (nI_1 _) (by decide) (lv2 := [(3, .int (nI (i + 1))), (2, .int (if bb = (-1) then (dmF nw tg i nl) else (if le ≤ (dmF nw tg i nl) then le else (dmF nw tg i nl)))), (1, .int (if bb = (-1) then (nI i) else (if le ≤ (dmF nw tg i nl) then bb else (nI i)))), (5, .int (nI nl)), (4, .int (dmF nw tg i nl)), (0, .ref m0)]) rfl ?_
                refine r_goto C dX3_bestState_93 (tgt := 6) (by decide) ?_
                refine r_lv [0, 1, 2, 5] (lv2 := [(3, .int (nI (i + 1))), (2, .int (if bb = (-1) then (dmF nw tg i nl) else (if le ≤ (dmF nw tg i nl) then le else (dmF nw tg i nl)))), (1, .int (if bb = (-1) then (nI i) else (if le ≤ (dmF nw tg i nl) then bb else (nI i)))), (0, .ref m0)]) rfl ?_
                exact ih_6 (i + 1) (by omega) (by omega) _ _ (by subst e_bb; subst e_le; rfl) (by subst e_bb; subst e_le; rfl) 
              refine r_icmp_eq C dX3_bestState_76 (tgt := 85) (by decide) (fun c_7 => ?_) (fun c_7 => ?_)
              · refine r_iload_n C dX3_bestState_85 2 rfl ?_
                refine r_istore_n C dX3_bestState_86 (lv2 := [(1, .int (nI i)), (5, .int (nI nl)), (4, .int (dmF nw tg i nl)), (3, .int (nI i)), (2, .int le), (0, .ref m0)]) (by decide) rfl ?_
                refine r_iload C dX3_bestState_87 2 rfl ?_
                refine r_istore_n C dX3_bestState_89 (lv2 := [(2, .int (dmF nw tg i nl)), (1, .int (nI i)), (5, .int (nI nl)), (4, .int (dmF nw tg i nl)), (3, .int (nI i)), (0, .ref m0)]) (by decide) rfl ?_
                exact J_11 _ _ (by first | rfl | simp only [if_pos c_7]) (by first | rfl | simp only [if_pos c_7])
              · refine r_iload C dX3_bestState_79 1 rfl ?_
                refine r_iload_n C dX3_bestState_81 3 rfl ?_
                refine r_icmp_ge C dX3_bestState_82 (tgt := 90) (by decide) (fun c_8 => ?_) (fun c_8 => ?_)
                · refine r_lv [3, 4, 0, 1, 2, 5] (lv2 := [(2, .int le), (1, .int bb), (5, .int (nI nl)), (4, .int (dmF nw tg i nl)), (3, .int (nI i)), (0, .ref m0)]) rfl ?_
                  exact J_11 _ _ (by first | rfl | simp only [if_neg c_7, if_pos c_8]) (by first | rfl | simp only [if_neg c_7, if_pos c_8])
                · refine r_iload_n C dX3_bestState_85 2 rfl ?_
                  refine r_istore_n C dX3_bestState_86 (lv2 := [(1, .int (nI i)), (5, .int (nI nl)), (4, .int (dmF nw tg i nl)), (3, .int (nI i)), (2, .int le), (0, .ref m0)]) (by decide) rfl ?_
                  refine r_iload C dX3_bestState_87 2 rfl ?_
                  refine r_istore_n C dX3_bestState_89 (lv2 := [(2, .int (dmF nw tg i nl)), (1, .int (nI i)), (5, .int (nI nl)), (4, .int (dmF nw tg i nl)), (3, .int (nI i)), (0, .ref m0)]) (by decide) rfl ?_
                  exact J_11 _ _ (by first | rfl | simp only [if_neg c_7, if_neg c_8]) (by first | rfl | simp only [if_neg c_7, if_neg c_8])
            · have n_6 := mt (nI_leI (a := nl) (b := w) (by omega) (by omega)).mpr c_5
              refine r_aload_n C dX3_bestState_33 5 rfl ?_
              refine r_iload_n C dX3_bestState_34 2 rfl ?_
              refine r_iload C dX3_bestState_35 0 rfl ?_
              refine r_callV C (As := [.int (nI i), .int (nI w)]) (rest := []) (wr := [(t0, .inl (cI, 10, .inl tg))]) (c_X3_toneOf l D cI cR m0 n0 q0 sv r0 t0 w0 u0 v0 y0 tm hs nw i w (by first | assumption | omega) (by first | assumption | omega)) k_X3_toneOf rfl dX3_bestState_37 q_525 q_527 q_18 ⟨nle rfl, nle rfl⟩ [0, 1] [2] rfl rfl rfl rfl (by decide) 0 rfl rfl rfl (nle rfl) ⟨nle rfl, nle rfl⟩ (r_fin (st2 := [.int (nw (28 + 10 * i + w))]) (ws2 := [(t0, .inl (cI, 10, .inl tg)), (m0, .inr (3, [.ref n0, .ref q0, .int (nI sv), .ref r0, .ref t0, .ref w0, .ref u0, .ref v0, .ref y0, .int tm, .long hs])), (n0, .inl (cI, 148, .inl nw))]) rfl rfl ?_)
              refine r_aload_n C dX3_bestState_40 5 rfl ?_
              refine r_get C clX3 dX3_bestState_41 1 4 rfl (by decide) q_403 rfl ?_
              refine r_iload C dX3_bestState_44 0 rfl ?_
              refine r_iald C dX3_bestState_46 0 rfl w rfl (by omega) (by decide) ?_
              refine r_isub C dX3_bestState_47 ?_
              refine r_istore C dX3_bestState_48 (lv2 := [(6, .int ((nw (28 + 10 * i + w)) - (tg w))), (5, .int (nI w)), (4, .int fa), (3, .int (nI i)), (2, .int le), (1, .int bb), (0, .ref m0)]) (by decide) rfl ?_
              refine r_iload C dX3_bestState_50 2 rfl ?_
              refine r_iload C dX3_bestState_52 0 rfl ?_
              have J_14 : ∀ (v_13 : Int32), v_13 = (if 0 ≤ ((nw (28 + 10 * i + w)) - (tg w)) then ((nw (28 + 10 * i + w)) - (tg w)) else (-((nw (28 + 10 * i + w)) - (tg w)))) → Wr G 0 0 65 [(6, .int ((nw (28 + 10 * i + w)) - (tg w))), (5, .int (nI w)), (4, .int fa), (3, .int (nI i)), (2, .int le), (1, .int bb), (0, .ref m0)] [.int v_13, .int fa] [(t0, .inl (cI, 10, .inl tg)), (m0, .inr (3, [.ref n0, .ref q0, .int (nI sv), .ref r0, .ref t0, .ref w0, .ref u0, .ref v0, .ref y0, .int tm, .long hs])), (n0, .inl (cI, 148, .inl nw))] := by
                intro v_13 ev_13
                subst ev_13
                refine r_iadd C dX3_bestState_65 ?_
                refine r_istore C dX3_bestState_66 (lv2 := [(4, .int (fa + (if 0 ≤ ((nw (28 + 10 * i + w)) - (tg w)) then ((nw (28 + 10 * i + w)) - (tg w)) else (-((nw (28 + 10 * i + w)) - (tg w)))))), (6, .int ((nw (28 + 10 * i + w)) - (tg w))), (5, .int (nI w)), (3, .int (nI i)), (2, .int le), (1, .int bb), (0, .ref m0)]) (by decide) rfl ?_
                refine r_iinc C dX3_bestState_68 2 rfl (v := nI (w + 1)) (nI_1 _) (by decide) (lv2 := [(5, .int (nI (w + 1))), (4, .int (fa + (if 0 ≤ ((nw (28 + 10 * i + w)) - (tg w)) then ((nw (28 + 10 * i + w)) - (tg w)) else (-((nw (28 + 10 * i + w)) - (tg w)))))), (6, .int ((nw (28 + 10 * i + w)) - (tg w))), (3, .int (nI i)), (2, .int le), (1, .int bb), (0, .ref m0)]) rfl ?_
                refine r_goto C dX3_bestState_71 (tgt := 22) (by decide) ?_
                refine r_lv [0, 1, 3, 4, 5, 6] (lv2 := [(5, .int (nI (w + 1))), (4, .int (fa + (if 0 ≤ ((nw (28 + 10 * i + w)) - (tg w)) then ((nw (28 + 10 * i + w)) - (tg w)) else (-((nw (28 + 10 * i + w)) - (tg w)))))), (3, .int (nI i)), (2, .int le), (1, .int bb), (0, .ref m0)]) rfl ?_
                refine r_ws [1, 2, 0] (ws2 := [(m0, .inr (3, [.ref n0, .ref q0, .int (nI sv), .ref r0, .ref t0, .ref w0, .ref u0, .ref v0, .ref y0, .int tm, .long hs])), (n0, .inl (cI, 148, .inl nw)), (t0, .inl (cI, 10, .inl tg))]) rfl rfl ?_
                exact ih_22 (w + 1) (by omega) (by omega) _ (by subst e_fa; rfl) 
              refine r_if_ge C dX3_bestState_54 (tgt := 63) (by decide) (fun c_12 => ?_) (fun c_12 => ?_)
              · refine r_iload C dX3_bestState_63 0 rfl ?_
                exact J_14 _ (by first | rfl | simp only [if_pos c_12])
              · refine r_iload C dX3_bestState_57 0 rfl ?_
                refine r_ineg C dX3_bestState_59 ?_
                refine r_goto C dX3_bestState_60 (tgt := 65) (by decide) ?_
                exact J_14 _ (by first | rfl | simp only [if_neg c_12])
        exact L_22 (nl + 1) 0 (by omega) (by omega) _ rfl 
  exact L_6 (pr + 1) 0 (by omega) (by omega) _ _ rfl rfl 
set_option maxHeartbeats 4000000 in
set_option maxRecDepth 100000 in
/-- setTarget, in range -/
theorem c_X3_setTarget_ok (l : Launch) (D : va_G) (cI cR : ClassId) (m0 : Nat) (n0 : Nat) (q0 : Nat) (sv : Nat) (r0 : Nat) (t0 : Nat) (w0 : Nat) (u0 : Nat) (v0 : Nat) (y0 : Nat) (tm : Int32) (hs : Int64) (tg : Nat → Int32) (li : Nat) (vx : Int32) (hli : li < 10) (hv : ¬ wiF vx 0 9 = 0) : Ctr l D cI cR yX3_setTarget cX3_setTarget 4 ((some .int)) ({ frames := 1, cells := 0, slots := 0, locals := 22 }) [.ref m0, .int (nI li), .int vx] [(m0, .inr (3, [.ref n0, .ref q0, .int (nI sv), .ref r0, .ref t0, .ref w0, .ref u0, .ref v0, .ref y0, .int tm, .long hs])), (t0, .inl (cI, 10, .inl tg))] (rP (some (.int (tg li))) [(m0, .inr (3, [.ref n0, .ref q0, .int (nI sv), .ref r0, .ref t0, .ref w0, .ref u0, .ref v0, .ref y0, .int tm, .long hs])), (t0, .inl (cI, 10, .inl (upd tg li vx)))]) := by
  refine ctr_of (lv0 := [(0, .ref m0), (1, .int (nI li)), (2, .int vx)]) (by decide) (nle rfl) rfl (fun G C E => ?_)
  refine r_iload_n C dX3_setTarget_0 1 rfl ?_
  refine r_iconst C dX3_setTarget_1 (v := 0) (by decide) ?_
  refine r_bipush C dX3_setTarget_2 (v := 9) (by decide) ?_
  refine r_callS C (As := [.int (nI li), .int 0, .int 9]) (rest := []) (wr := [(m0, .inr (3, [.ref n0, .ref q0, .int (nI sv), .ref r0, .ref t0, .ref w0, .ref u0, .ref v0, .ref y0, .int tm, .long hs])), (t0, .inl (cI, 10, .inl tg))]) (c_X3_within l D cI cR (nI li) 0 9 ) k_X3_within rfl dX3_setTarget_4 q_453 q_454 ⟨nle rfl, nle rfl⟩ [] [0, 1] rfl rfl rfl rfl (by decide) rfl (nle rfl) ⟨nle rfl, nle rfl⟩ (r_fin (st2 := [.int (wiF (nI li) 0 9)]) (ws2 := [(m0, .inr (3, [.ref n0, .ref q0, .int (nI sv), .ref r0, .ref t0, .ref w0, .ref u0, .ref v0, .ref y0, .int tm, .long hs])), (t0, .inl (cI, 10, .inl tg))]) rfl rfl ?_)
  refine r_if_eq C dX3_setTarget_7 (tgt := 20) (by decide) (fun c_1 => ?_) (fun c_1 => ?_)
  · exact absurd c_1 (wi_ok9 hli)
  · refine r_iload_n C dX3_setTarget_10 2 rfl ?_
    refine r_iconst C dX3_setTarget_11 (v := 0) (by decide) ?_
    refine r_bipush C dX3_setTarget_12 (v := 9) (by decide) ?_
    refine r_callS C (As := [.int vx, .int 0, .int 9]) (rest := []) (wr := [(m0, .inr (3, [.ref n0, .ref q0, .int (nI sv), .ref r0, .ref t0, .ref w0, .ref u0, .ref v0, .ref y0, .int tm, .long hs])), (t0, .inl (cI, 10, .inl tg))]) (c_X3_within l D cI cR vx 0 9 ) k_X3_within rfl dX3_setTarget_14 q_453 q_454 ⟨nle rfl, nle rfl⟩ [] [0, 1] rfl rfl rfl rfl (by decide) rfl (nle rfl) ⟨nle rfl, nle rfl⟩ (r_fin (st2 := [.int (wiF vx 0 9)]) (ws2 := [(m0, .inr (3, [.ref n0, .ref q0, .int (nI sv), .ref r0, .ref t0, .ref w0, .ref u0, .ref v0, .ref y0, .int tm, .long hs])), (t0, .inl (cI, 10, .inl tg))]) rfl rfl ?_)
    refine r_if_ne C dX3_setTarget_17 (tgt := 27) (by decide) (fun c_2 => ?_) (fun c_2 => ?_)
    · refine r_aload_n C dX3_setTarget_27 0 rfl ?_
      refine r_get C clX3 dX3_setTarget_28 0 4 rfl (by decide) q_403 rfl ?_
      refine r_iload_n C dX3_setTarget_31 1 rfl ?_
      refine r_iald C dX3_setTarget_32 1 rfl li rfl (by omega) (by decide) ?_
      refine r_istore_n C dX3_setTarget_33 (lv2 := [(3, .int (tg li)), (0, .ref m0), (1, .int (nI li)), (2, .int vx)]) (by decide) rfl ?_
      refine r_aload_n C dX3_setTarget_34 1 rfl ?_
      refine r_get C clX3 dX3_setTarget_35 0 4 rfl (by decide) q_403 rfl ?_
      refine r_iload_n C dX3_setTarget_38 2 rfl ?_
      refine r_iload_n C dX3_setTarget_39 3 rfl ?_
      refine r_iast C dX3_setTarget_40 1 rfl li rfl (by omega) (by decide) (ws2 := [(m0, .inr (3, [.ref n0, .ref q0, .int (nI sv), .ref r0, .ref t0, .ref w0, .ref u0, .ref v0, .ref y0, .int tm, .long hs])), (t0, .inl (cI, 10, .inl (upd tg li vx)))]) rfl ?_
      refine r_iload_n C dX3_setTarget_41 0 rfl ?_
      exact r_iret C E dX3_setTarget_42 (nle rfl) (nle rfl) ⟨rfl, rfl⟩
    · exact absurd c_2 hv
set_option maxHeartbeats 4000000 in
set_option maxRecDepth 100000 in
/-- setTarget, out of range -/
theorem c_X3_setTarget_no (l : Launch) (D : va_G) (cI cR : ClassId) (m0 : Nat) (n0 : Nat) (q0 : Nat) (sv : Nat) (r0 : Nat) (t0 : Nat) (w0 : Nat) (u0 : Nat) (v0 : Nat) (y0 : Nat) (tm : Int32) (hs : Int64) (er : Nat → Int32) (lx : Int32) (vx : Int32) (hv : ¬ (¬ wiF lx 0 9 = 0 ∧ ¬ wiF vx 0 9 = 0)) : Ctr l D cI cR yX3_setTarget cX3_setTarget 4 ((some .int)) ({ frames := 1, cells := 0, slots := 0, locals := 22 }) [.ref m0, .int lx, .int vx] [(m0, .inr (3, [.ref n0, .ref q0, .int (nI sv), .ref r0, .ref t0, .ref w0, .ref u0, .ref v0, .ref y0, .int tm, .long hs])), (r0, .inl (cI, 4, .inl er))] (rP (some (.int (-2))) [(m0, .inr (3, [.ref n0, .ref q0, .int (nI sv), .ref r0, .ref t0, .ref w0, .ref u0, .ref v0, .ref y0, .int tm, .long hs])), (r0, .inl (cI, 4, .inl (upd er 0 (er 0 + 1))))]) := by
  refine ctr_of (lv0 := [(0, .ref m0), (1, .int lx), (2, .int vx)]) (by decide) (nle rfl) rfl (fun G C E => ?_)
  refine r_iload_n C dX3_setTarget_0 1 rfl ?_
  refine r_iconst C dX3_setTarget_1 (v := 0) (by decide) ?_
  refine r_bipush C dX3_setTarget_2 (v := 9) (by decide) ?_
  refine r_callS C (As := [.int lx, .int 0, .int 9]) (rest := []) (wr := [(m0, .inr (3, [.ref n0, .ref q0, .int (nI sv), .ref r0, .ref t0, .ref w0, .ref u0, .ref v0, .ref y0, .int tm, .long hs])), (r0, .inl (cI, 4, .inl er))]) (c_X3_within l D cI cR lx 0 9 ) k_X3_within rfl dX3_setTarget_4 q_453 q_454 ⟨nle rfl, nle rfl⟩ [] [0, 1] rfl rfl rfl rfl (by decide) rfl (nle rfl) ⟨nle rfl, nle rfl⟩ (r_fin (st2 := [.int (wiF lx 0 9)]) (ws2 := [(m0, .inr (3, [.ref n0, .ref q0, .int (nI sv), .ref r0, .ref t0, .ref w0, .ref u0, .ref v0, .ref y0, .int tm, .long hs])), (r0, .inl (cI, 4, .inl er))]) rfl rfl ?_)
  refine r_if_eq C dX3_setTarget_7 (tgt := 20) (by decide) (fun hc7 => ?_) (fun hc7 => ?_)
  · refine r_aload_n C dX3_setTarget_20 0 rfl ?_
    refine r_bipush C dX3_setTarget_21 (v := (-2)) (by decide) ?_
    refine r_callV C (As := [.int (-2)]) (rest := []) (wr := []) (c_X3_fails l D cI cR m0 n0 q0 sv r0 t0 w0 u0 v0 y0 tm hs er (-2) 0 (by decide) (by decide)) k_X3_fails rfl dX3_setTarget_23 q_437 q_439 q_14 ⟨nle rfl, nle rfl⟩ [0, 1] [] rfl rfl rfl rfl (by decide) 0 rfl rfl rfl (nle rfl) ⟨nle rfl, nle rfl⟩ (r_fin (st2 := [.int (-2)]) (ws2 := [(m0, .inr (3, [.ref n0, .ref q0, .int (nI sv), .ref r0, .ref t0, .ref w0, .ref u0, .ref v0, .ref y0, .int tm, .long hs])), (r0, .inl (cI, 4, .inl (upd er 0 (er 0 + 1))))]) rfl rfl ?_)
    exact r_iret C E dX3_setTarget_26 (nle rfl) (nle rfl) ⟨rfl, rfl⟩
  · refine r_iload_n C dX3_setTarget_10 2 rfl ?_
    refine r_iconst C dX3_setTarget_11 (v := 0) (by decide) ?_
    refine r_bipush C dX3_setTarget_12 (v := 9) (by decide) ?_
    refine r_callS C (As := [.int vx, .int 0, .int 9]) (rest := []) (wr := [(m0, .inr (3, [.ref n0, .ref q0, .int (nI sv), .ref r0, .ref t0, .ref w0, .ref u0, .ref v0, .ref y0, .int tm, .long hs])), (r0, .inl (cI, 4, .inl er))]) (c_X3_within l D cI cR vx 0 9 ) k_X3_within rfl dX3_setTarget_14 q_453 q_454 ⟨nle rfl, nle rfl⟩ [] [0, 1] rfl rfl rfl rfl (by decide) rfl (nle rfl) ⟨nle rfl, nle rfl⟩ (r_fin (st2 := [.int (wiF vx 0 9)]) (ws2 := [(m0, .inr (3, [.ref n0, .ref q0, .int (nI sv), .ref r0, .ref t0, .ref w0, .ref u0, .ref v0, .ref y0, .int tm, .long hs])), (r0, .inl (cI, 4, .inl er))]) rfl rfl ?_)
    refine r_if_ne C dX3_setTarget_17 (tgt := 27) (by decide) (fun c_1 => ?_) (fun c_1 => ?_)
    · exact absurd ⟨hc7, c_1⟩ hv
    · refine r_aload_n C dX3_setTarget_20 0 rfl ?_
      refine r_bipush C dX3_setTarget_21 (v := (-2)) (by decide) ?_
      refine r_callV C (As := [.int (-2)]) (rest := []) (wr := []) (c_X3_fails l D cI cR m0 n0 q0 sv r0 t0 w0 u0 v0 y0 tm hs er (-2) 0 (by decide) (by decide)) k_X3_fails rfl dX3_setTarget_23 q_437 q_439 q_14 ⟨nle rfl, nle rfl⟩ [0, 1] [] rfl rfl rfl rfl (by decide) 0 rfl rfl rfl (nle rfl) ⟨nle rfl, nle rfl⟩ (r_fin (st2 := [.int (-2)]) (ws2 := [(m0, .inr (3, [.ref n0, .ref q0, .int (nI sv), .ref r0, .ref t0, .ref w0, .ref u0, .ref v0, .ref y0, .int tm, .long hs])), (r0, .inl (cI, 4, .inl (upd er 0 (er 0 + 1))))]) rfl rfl ?_)
      exact r_iret C E dX3_setTarget_26 (nle rfl) (nle rfl) ⟨rfl, rfl⟩
set_option maxHeartbeats 4000000 in
set_option maxRecDepth 100000 in
/-- allows(line, minutes) -/
theorem c_X3_allows (l : Launch) (D : va_G) (cI cR : ClassId) (m0 : Nat) (n0 : Nat) (q0 : Nat) (sv : Nat) (r0 : Nat) (t0 : Nat) (w0 : Nat) (u0 : Nat) (v0 : Nat) (y0 : Nat) (tm : Int32) (hs : Int64) (nw : Nat → Int32) (tg : Nat → Int32) (li : Nat) (mx : Int32) (hli : li < 10) : Ctr l D cI cR yX3_allows cX3_allows 3 ((some .boolean)) ({ frames := 1, cells := 0, slots := 0, locals := 22 }) [.ref m0, .int (nI li), .int mx] [(m0, .inr (3, [.ref n0, .ref q0, .int (nI sv), .ref r0, .ref t0, .ref w0, .ref u0, .ref v0, .ref y0, .int tm, .long hs])), (n0, .inl (cI, 148, .inl nw)), (t0, .inl (cI, 10, .inl tg))] (rP (some (.int (alF nw tg li mx))) [(m0, .inr (3, [.ref n0, .ref q0, .int (nI sv), .ref r0, .ref t0, .ref w0, .ref u0, .ref v0, .ref y0, .int tm, .long hs])), (n0, .inl (cI, 148, .inl nw)), (t0, .inl (cI, 10, .inl tg))]) := by
  refine ctr_of (lv0 := [(0, .ref m0), (1, .int (nI li)), (2, .int mx)]) (by decide) (nle rfl) rfl (fun G C E => ?_)
  refine r_aload_n C dX3_allows_0 0 rfl ?_
  refine r_get C clX3 dX3_allows_1 0 0 rfl (by decide) q_399 rfl ?_
  refine r_bipush C dX3_allows_4 (v := 6) (by decide) ?_
  refine r_iload_n C dX3_allows_6 1 rfl ?_
  refine r_iadd C dX3_allows_7 ?_
  refine r_top (b := nI (6 + li)) (nA rfl rfl) ?_
  refine r_iald C dX3_allows_8 1 rfl (6 + li) rfl (by omega) (by decide) ?_
  refine r_aload_n C dX3_allows_9 0 rfl ?_
  refine r_get C clX3 dX3_allows_10 0 0 rfl (by decide) q_399 rfl ?_
  refine r_iconst C dX3_allows_13 (v := 1) (by decide) ?_
  refine r_iald C dX3_allows_14 1 rfl 1 rfl (by decide) (by decide) ?_
  refine r_iload_n C dX3_allows_15 2 rfl ?_
  refine r_imul C dX3_allows_16 ?_
  refine r_iadd C dX3_allows_17 ?_
  refine r_bipush C dX3_allows_18 (v := 10) (by decide) ?_
  refine r_aload_n C dX3_allows_20 0 rfl ?_
  refine r_get C clX3 dX3_allows_21 0 4 rfl (by decide) q_403 rfl ?_
  refine r_iload_n C dX3_allows_24 1 rfl ?_
  refine r_iald C dX3_allows_25 2 rfl li rfl (by omega) (by decide) ?_
  refine r_imul C dX3_allows_26 ?_
  refine r_bipush C dX3_allows_27 (v := 10) (by decide) ?_
  refine r_aload_n C dX3_allows_29 0 rfl ?_
  refine r_get C clX3 dX3_allows_30 0 4 rfl (by decide) q_403 rfl ?_
  refine r_iload_n C dX3_allows_33 1 rfl ?_
  refine r_iald C dX3_allows_34 2 rfl li rfl (by omega) (by decide) ?_
  refine r_imul C dX3_allows_35 ?_
  refine r_bipush C dX3_allows_36 (v := 9) (by decide) ?_
  refine r_iadd C dX3_allows_38 ?_
  refine r_callS C (As := [.int ((nw (6 + li)) + ((nw 1) * mx)), .int (10 * (tg li)), .int ((10 * (tg li)) + 9)]) (rest := []) (wr := [(m0, .inr (3, [.ref n0, .ref q0, .int (nI sv), .ref r0, .ref t0, .ref w0, .ref u0, .ref v0, .ref y0, .int tm, .long hs])), (n0, .inl (cI, 148, .inl nw)), (t0, .inl (cI, 10, .inl tg))]) (c_X3_within l D cI cR ((nw (6 + li)) + ((nw 1) * mx)) (10 * (tg li)) ((10 * (tg li)) + 9) ) k_X3_within rfl dX3_allows_39 q_453 q_454 ⟨nle rfl, nle rfl⟩ [] [0, 1, 2] rfl rfl rfl rfl (by decide) rfl (nle rfl) ⟨nle rfl, nle rfl⟩ (r_fin (st2 := [.int (wiF ((nw (6 + li)) + ((nw 1) * mx)) (10 * (tg li)) ((10 * (tg li)) + 9))]) (ws2 := [(m0, .inr (3, [.ref n0, .ref q0, .int (nI sv), .ref r0, .ref t0, .ref w0, .ref u0, .ref v0, .ref y0, .int tm, .long hs])), (n0, .inl (cI, 148, .inl nw)), (t0, .inl (cI, 10, .inl tg))]) rfl rfl ?_)
  exact r_zret C E dX3_allows_42 (nle rfl) (nle rfl) wiN ⟨rfl, rfl⟩
set_option maxHeartbeats 4000000 in
set_option maxRecDepth 100000 in
/-- greatest(line) -/
theorem c_X3_greatest (l : Launch) (D : va_G) (cI cR : ClassId) (m0 : Nat) (n0 : Nat) (q0 : Nat) (sv : Nat) (r0 : Nat) (t0 : Nat) (w0 : Nat) (u0 : Nat) (v0 : Nat) (y0 : Nat) (tm : Int32) (hs : Int64) (nw : Nat → Int32) (tg : Nat → Int32) (li : Nat) (hli : li < 10) : Ctr l D cI cR yX3_greatest cX3_greatest 3 ((some .int)) ({ frames := 2, cells := 0, slots := 0, locals := 44 }) [.ref m0, .int (nI li)] [(m0, .inr (3, [.ref n0, .ref q0, .int (nI sv), .ref r0, .ref t0, .ref w0, .ref u0, .ref v0, .ref y0, .int tm, .long hs])), (n0, .inl (cI, 148, .inl nw)), (t0, .inl (cI, 10, .inl tg))] (rP (some (.int (grF nw tg li))) [(m0, .inr (3, [.ref n0, .ref q0, .int (nI sv), .ref r0, .ref t0, .ref w0, .ref u0, .ref v0, .ref y0, .int tm, .long hs])), (n0, .inl (cI, 148, .inl nw)), (t0, .inl (cI, 10, .inl tg))]) := by
  refine ctr_of (lv0 := [(0, .ref m0), (1, .int (nI li))]) (by decide) (nle rfl) rfl (fun G C E => ?_)
  refine r_bipush C dX3_greatest_0 (v := 99) (by decide) ?_
  refine r_istore_n C dX3_greatest_2 (lv2 := [(2, .int 99), (0, .ref m0), (1, .int (nI li))]) (by decide) rfl ?_
  have L_3 : ∀ (z i : Nat), i ≤ 100 → 100 < i + z → (∀ k, k < i → alF nw tg li (99 - nI k) = 0) → Wr G 0 0 3 [(2, .int (99 - nI i)), (0, .ref m0), (1, .int (nI li))] [] [(m0, .inr (3, [.ref n0, .ref q0, .int (nI sv), .ref r0, .ref t0, .ref w0, .ref u0, .ref v0, .ref y0, .int tm, .long hs])), (n0, .inl (cI, 148, .inl nw)), (t0, .inl (cI, 10, .inl tg))] := by
    intro z
    induction z with
    | zero => intro i h1 h2; exact absurd h2 (by omega)
    | succ z ih_3 =>
      intro i hi_3 hz_3 hgr
      refine r_iload_n C dX3_greatest_3 0 rfl ?_
      refine r_if_lt C dX3_greatest_4 (tgt := 22) (by decide) (fun h4 => ?_) (fun h4 => ?_)
      · refine r_iload_n C dX3_greatest_22 0 rfl ?_
        exact r_iret C E dX3_greatest_23 (nle rfl) (nle rfl) ⟨by first | rw [gr_a hi_3 hgr h4] | rw [gr_b hgr hlt h13], rfl⟩
      · have hlt := gr_lt hi_3 h4
        refine r_aload_n C dX3_greatest_7 1 rfl ?_
        refine r_iload_n C dX3_greatest_8 2 rfl ?_
        refine r_iload_n C dX3_greatest_9 0 rfl ?_
        refine r_callV C (As := [.int (nI li), .int (99 - nI i)]) (rest := []) (wr := []) (c_X3_allows l D cI cR m0 n0 q0 sv r0 t0 w0 u0 v0 y0 tm hs nw tg li (99 - nI i) (by first | assumption | omega)) k_X3_allows rfl dX3_greatest_10 q_565 q_567 q_23 ⟨nle rfl, nle rfl⟩ [0, 1, 2] [] rfl rfl rfl rfl (by decide) 0 rfl rfl rfl (nle rfl) ⟨nle rfl, nle rfl⟩ (r_fin (st2 := [.int (alF nw tg li (99 - nI i))]) (ws2 := [(m0, .inr (3, [.ref n0, .ref q0, .int (nI sv), .ref r0, .ref t0, .ref w0, .ref u0, .ref v0, .ref y0, .int tm, .long hs])), (n0, .inl (cI, 148, .inl nw)), (t0, .inl (cI, 10, .inl tg))]) rfl rfl ?_)
        refine r_if_ne C dX3_greatest_13 (tgt := 22) (by decide) (fun h13 => ?_) (fun h13 => ?_)
        · refine r_iload_n C dX3_greatest_22 0 rfl ?_
          exact r_iret C E dX3_greatest_23 (nle rfl) (nle rfl) ⟨by first | rw [gr_a hi_3 hgr h4] | rw [gr_b hgr hlt h13], rfl⟩
        · refine r_iinc C dX3_greatest_16 0 rfl (v := 99 - nI (i + 1)) (gr_step i) (by decide) (lv2 := [(2, .int (99 - nI (i + 1))), (0, .ref m0), (1, .int (nI li))]) rfl ?_
          refine r_goto C dX3_greatest_19 (tgt := 3) (by decide) ?_
          exact ih_3 (i + 1) (by omega) (by omega)   (lt_s hgr h13)
  exact L_3 (100 + 1) 0 (by omega) (by omega)   (fun k h => absurd h (Nat.not_lt_zero k))
set_option maxHeartbeats 4000000 in
set_option maxRecDepth 100000 in
/-- blocked() -/
theorem c_X3_blocked (l : Launch) (D : va_G) (cI cR : ClassId) (m0 : Nat) (n0 : Nat) (q0 : Nat) (sv : Nat) (r0 : Nat) (t0 : Nat) (w0 : Nat) (u0 : Nat) (v0 : Nat) (y0 : Nat) (tm : Int32) (hs : Int64) (nw : Nat → Int32) (tg : Nat → Int32) (nl : Nat) (e0 : nw 0 = nI nl) (hnl : nl ≤ 10) : Ctr l D cI cR yX3_blocked cX3_blocked 3 ((some .int)) ({ frames := 3, cells := 0, slots := 0, locals := 66 }) [.ref m0] [(m0, .inr (3, [.ref n0, .ref q0, .int (nI sv), .ref r0, .ref t0, .ref w0, .ref u0, .ref v0, .ref y0, .int tm, .long hs])), (n0, .inl (cI, 148, .inl nw)), (t0, .inl (cI, 10, .inl tg))] (rP (some (.int (obF nw tg nl))) [(m0, .inr (3, [.ref n0, .ref q0, .int (nI sv), .ref r0, .ref t0, .ref w0, .ref u0, .ref v0, .ref y0, .int tm, .long hs])), (n0, .inl (cI, 148, .inl nw)), (t0, .inl (cI, 10, .inl tg))]) := by
  refine ctr_of (lv0 := [(0, .ref m0)]) (by decide) (nle rfl) rfl (fun G C E => ?_)
  refine r_iconst C dX3_blocked_0 (v := 0) (by decide) ?_
  refine r_istore_n C dX3_blocked_1 (lv2 := [(1, .int 0), (0, .ref m0)]) (by decide) rfl ?_
  refine r_iconst C dX3_blocked_2 (v := 0) (by decide) ?_
  refine r_istore_n C dX3_blocked_3 (lv2 := [(2, .int 0), (1, .int 0), (0, .ref m0)]) (by decide) rfl ?_
  have L_4 : ∀ (z i : Nat), i ≤ nl → nl < i + z → ∀ (bb : Int32), bb = obF nw tg i → Wr G 0 0 4 [(2, .int (nI i)), (1, .int bb), (0, .ref m0)] [] [(m0, .inr (3, [.ref n0, .ref q0, .int (nI sv), .ref r0, .ref t0, .ref w0, .ref u0, .ref v0, .ref y0, .int tm, .long hs])), (n0, .inl (cI, 148, .inl nw)), (t0, .inl (cI, 10, .inl tg))] := by
    intro z
    induction z with
    | zero => intro i h1 h2; exact absurd h2 (by omega)
    | succ z ih_4 =>
      intro i hi_4 hz_4 bb e_bb
      refine r_iload_n C dX3_blocked_4 0 rfl ?_
      refine r_aload_n C dX3_blocked_5 2 rfl ?_
      refine r_get C clX3 dX3_blocked_6 0 0 rfl (by decide) q_399 rfl ?_
      refine r_iconst C dX3_blocked_9 (v := 0) (by decide) ?_
      refine r_iald C dX3_blocked_10 1 rfl 0 rfl (by decide) (by decide) ?_
      refine r_top (b := nI nl) e0 ?_
      refine r_icmp_ge C dX3_blocked_11 (tgt := 38) (by decide) (fun c_1 => ?_) (fun c_1 => ?_)
      · have n_2 := (nI_leI (a := nl) (b := i) (by omega) (by omega)).mp c_1
        have ex_4 : nl = i := by omega
        subst ex_4
        subst e_bb
        refine r_iload_n C dX3_blocked_38 1 rfl ?_
        exact r_iret C E dX3_blocked_39 (nle rfl) (nle rfl) ⟨rfl, rfl⟩
      · have n_2 := mt (nI_leI (a := nl) (b := i) (by omega) (by omega)).mpr c_1
        refine r_iload_n C dX3_blocked_14 1 rfl ?_
        refine r_aload_n C dX3_blocked_15 2 rfl ?_
        refine r_iload_n C dX3_blocked_16 0 rfl ?_
        refine r_callV C (As := [.int (nI i)]) (rest := [.int bb]) (wr := []) (c_X3_greatest l D cI cR m0 n0 q0 sv r0 t0 w0 u0 v0 y0 tm hs nw tg i (by first | assumption | omega)) k_X3_greatest rfl dX3_blocked_17 q_561 q_563 q_22 ⟨nle rfl, nle rfl⟩ [0, 1, 2] [] rfl rfl rfl rfl (by decide) 0 rfl rfl rfl (nle rfl) ⟨nle rfl, nle rfl⟩ (r_fin (st2 := [.int (grF nw tg i), .int bb]) (ws2 := [(m0, .inr (3, [.ref n0, .ref q0, .int (nI sv), .ref r0, .ref t0, .ref w0, .ref u0, .ref v0, .ref y0, .int tm, .long hs])), (n0, .inl (cI, 148, .inl nw)), (t0, .inl (cI, 10, .inl tg))]) rfl rfl ?_)
        have J_5 : ∀ (v_4 : Int32), v_4 = (if 0 ≤ (grF nw tg i) then (0 : Int32) else (1 <<< (nI i &&& 31))) → Wr G 0 0 30 [(2, .int (nI i)), (1, .int bb), (0, .ref m0)] [.int v_4, .int bb] [(m0, .inr (3, [.ref n0, .ref q0, .int (nI sv), .ref r0, .ref t0, .ref w0, .ref u0, .ref v0, .ref y0, .int tm, .long hs])), (n0, .inl (cI, 148, .inl nw)), (t0, .inl (cI, 10, .inl tg))] := by
          intro v_4 ev_4
          subst ev_4
          refine r_ior C dX3_blocked_30 ?_
          refine r_istore_n C dX3_blocked_31 (lv2 := [(1, .int (bb ||| (if 0 ≤ (grF nw tg i) then (0 : Int32) else (1 <<< (nI i &&& 31))))), (2, .int (nI i)), (0, .ref m0)]) (by decide) rfl ?_
          refine r_iinc C dX3_blocked_32 1 rfl (v := nI (i + 1)) (nI_1 _) (by decide) (lv2 := [(2, .int (nI (i + 1))), (1, .int (bb ||| (if 0 ≤ (grF nw tg i) then (0 : Int32) else (1 <<< (nI i &&& 31))))), (0, .ref m0)]) rfl ?_
          refine r_goto C dX3_blocked_35 (tgt := 4) (by decide) ?_
          exact ih_4 (i + 1) (by omega) (by omega) _ (by subst e_bb; rfl) 
        refine r_if_ge C dX3_blocked_20 (tgt := 29) (by decide) (fun c_3 => ?_) (fun c_3 => ?_)
        · refine r_iconst C dX3_blocked_29 (v := 0) (by decide) ?_
          exact J_5 _ (by first | rfl | simp only [if_pos c_3])
        · refine r_iconst C dX3_blocked_23 (v := 1) (by decide) ?_
          refine r_iload_n C dX3_blocked_24 0 rfl ?_
          refine r_ishl C dX3_blocked_25 ?_
          refine r_goto C dX3_blocked_26 (tgt := 30) (by decide) ?_
          exact J_5 _ (by first | rfl | simp only [if_neg c_3])
  exact L_4 (nl + 1) 0 (by omega) (by omega) _ rfl 
set_option maxHeartbeats 4000000 in
set_option maxRecDepth 100000 in
/-- usedBy(line) -/
theorem c_X3_usedBy (l : Launch) (D : va_G) (cI cR : ClassId) (m0 : Nat) (n0 : Nat) (q0 : Nat) (sv : Nat) (r0 : Nat) (t0 : Nat) (w0 : Nat) (u0 : Nat) (v0 : Nat) (y0 : Nat) (hs : Int64) (nw : Nat → Int32) (tg : Nat → Int32) (tt : Nat → Int32) (tn : Nat) (li : Nat) (hli : li < 10) (htn : tn ≤ 10) : Ctr l D cI cR yX3_usedBy cX3_usedBy 3 ((some .int)) ({ frames := 2, cells := 0, slots := 0, locals := 44 }) [.ref m0, .int (nI li)] [(m0, .inr (3, [.ref n0, .ref q0, .int (nI sv), .ref r0, .ref t0, .ref w0, .ref u0, .ref v0, .ref y0, .int (nI tn), .long hs])), (n0, .inl (cI, 148, .inl nw)), (t0, .inl (cI, 10, .inl tg)), (v0, .inl (cI, 10, .inl tt))] (rP (some (.int (ubF nw tg tt tn li))) [(m0, .inr (3, [.ref n0, .ref q0, .int (nI sv), .ref r0, .ref t0, .ref w0, .ref u0, .ref v0, .ref y0, .int (nI tn), .long hs])), (n0, .inl (cI, 148, .inl nw)), (t0, .inl (cI, 10, .inl tg)), (v0, .inl (cI, 10, .inl tt))]) := by
  refine ctr_of (lv0 := [(0, .ref m0), (1, .int (nI li))]) (by decide) (nle rfl) rfl (fun G C E => ?_)
  refine r_aload_n C dX3_usedBy_0 0 rfl ?_
  refine r_iload_n C dX3_usedBy_1 1 rfl ?_
  refine r_iconst C dX3_usedBy_2 (v := 0) (by decide) ?_
  refine r_callV C (As := [.int (nI li), .int 0]) (rest := []) (wr := [(v0, .inl (cI, 10, .inl tt))]) (c_X3_allows l D cI cR m0 n0 q0 sv r0 t0 w0 u0 v0 y0 (nI tn) hs nw tg li 0 (by first | assumption | omega)) k_X3_allows rfl dX3_usedBy_3 q_565 q_567 q_23 ⟨nle rfl, nle rfl⟩ [0, 1, 2] [3] rfl rfl rfl rfl (by decide) 0 rfl rfl rfl (nle rfl) ⟨nle rfl, nle rfl⟩ (r_fin (st2 := [.int (alF nw tg li 0)]) (ws2 := [(v0, .inl (cI, 10, .inl tt)), (m0, .inr (3, [.ref n0, .ref q0, .int (nI sv), .ref r0, .ref t0, .ref w0, .ref u0, .ref v0, .ref y0, .int (nI tn), .long hs])), (n0, .inl (cI, 148, .inl nw)), (t0, .inl (cI, 10, .inl tg))]) rfl rfl ?_)
  refine r_if_eq C dX3_usedBy_6 (tgt := 11) (by decide) (fun h6 => ?_) (fun h6 => ?_)
  · refine r_iconst C dX3_usedBy_11 (v := 0) (by decide) ?_
    refine r_istore_n C dX3_usedBy_12 (lv2 := [(2, .int 0), (0, .ref m0), (1, .int (nI li))]) (by decide) rfl ?_
    have L_13 : ∀ (z i : Nat), i ≤ tn → tn < i + z → (∀ k, k < i → alF nw tg li (tt k) = 0) → Wr G 0 0 13 [(2, .int (nI i)), (0, .ref m0), (1, .int (nI li))] [] [(v0, .inl (cI, 10, .inl tt)), (m0, .inr (3, [.ref n0, .ref q0, .int (nI sv), .ref r0, .ref t0, .ref w0, .ref u0, .ref v0, .ref y0, .int (nI tn), .long hs])), (n0, .inl (cI, 148, .inl nw)), (t0, .inl (cI, 10, .inl tg))] := by
      intro z
      induction z with
      | zero => intro i h1 h2; exact absurd h2 (by omega)
      | succ z ih_13 =>
        intro i hi_13 hz_13 hub
        refine r_iload_n C dX3_usedBy_13 0 rfl ?_
        refine r_aload_n C dX3_usedBy_14 1 rfl ?_
        refine r_get C clX3 dX3_usedBy_15 1 9 rfl (by decide) q_408 rfl ?_
        refine r_icmp_ge C dX3_usedBy_18 (tgt := 48) (by decide) (fun c_1 => ?_) (fun c_1 => ?_)
        · have n_2 := (nI_leI (a := tn) (b := i) (by omega) (by omega)).mp c_1
          have ex_13 : tn = i := by omega
          subst ex_13
          refine r_iconst C dX3_usedBy_48 (v := (-1)) (by decide) ?_
          refine r_ws [1, 2, 3, 0] (ws2 := [(m0, .inr (3, [.ref n0, .ref q0, .int (nI sv), .ref r0, .ref t0, .ref w0, .ref u0, .ref v0, .ref y0, .int (nI tn), .long hs])), (n0, .inl (cI, 148, .inl nw)), (t0, .inl (cI, 10, .inl tg)), (v0, .inl (cI, 10, .inl tt))]) rfl rfl ?_
          exact r_iret C E dX3_usedBy_49 (nle rfl) (nle rfl) ⟨by rw [ub_2 h6 hub], rfl⟩
        · have n_2 := mt (nI_leI (a := tn) (b := i) (by omega) (by omega)).mpr c_1
          refine r_aload_n C dX3_usedBy_21 1 rfl ?_
          refine r_iload_n C dX3_usedBy_22 2 rfl ?_
          refine r_aload_n C dX3_usedBy_23 1 rfl ?_
          refine r_get C clX3 dX3_usedBy_24 1 7 rfl (by decide) q_406 rfl ?_
          refine r_iload_n C dX3_usedBy_27 0 rfl ?_
          refine r_iald C dX3_usedBy_28 0 rfl i rfl (by omega) (by decide) ?_
          refine r_callV C (As := [.int (nI li), .int (tt i)]) (rest := []) (wr := [(v0, .inl (cI, 10, .inl tt))]) (c_X3_allows l D cI cR m0 n0 q0 sv r0 t0 w0 u0 v0 y0 (nI tn) hs nw tg li (tt i) (by first | assumption | omega)) k_X3_allows rfl dX3_usedBy_29 q_565 q_567 q_23 ⟨nle rfl, nle rfl⟩ [1, 2, 3] [0] rfl rfl rfl rfl (by decide) 0 rfl rfl rfl (nle rfl) ⟨nle rfl, nle rfl⟩ (r_fin (st2 := [.int (alF nw tg li (tt i))]) (ws2 := [(v0, .inl (cI, 10, .inl tt)), (m0, .inr (3, [.ref n0, .ref q0, .int (nI sv), .ref r0, .ref t0, .ref w0, .ref u0, .ref v0, .ref y0, .int (nI tn), .long hs])), (n0, .inl (cI, 148, .inl nw)), (t0, .inl (cI, 10, .inl tg))]) rfl rfl ?_)
          refine r_if_eq C dX3_usedBy_32 (tgt := 42) (by decide) (fun h32 => ?_) (fun h32 => ?_)
          · refine r_iinc C dX3_usedBy_42 0 rfl (v := nI (i + 1)) (nI_1 _) (by decide) (lv2 := [(2, .int (nI (i + 1))), (0, .ref m0), (1, .int (nI li))]) rfl ?_
            refine r_goto C dX3_usedBy_45 (tgt := 13) (by decide) ?_
            exact ih_13 (i + 1) (by omega) (by omega)   (lt_s hub h32)
          · refine r_aload_n C dX3_usedBy_35 1 rfl ?_
            refine r_get C clX3 dX3_usedBy_36 1 7 rfl (by decide) q_406 rfl ?_
            refine r_iload_n C dX3_usedBy_39 0 rfl ?_
            refine r_iald C dX3_usedBy_40 0 rfl i rfl (by omega) (by decide) ?_
            refine r_ws [1, 2, 3, 0] (ws2 := [(m0, .inr (3, [.ref n0, .ref q0, .int (nI sv), .ref r0, .ref t0, .ref w0, .ref u0, .ref v0, .ref y0, .int (nI tn), .long hs])), (n0, .inl (cI, 148, .inl nw)), (t0, .inl (cI, 10, .inl tg)), (v0, .inl (cI, 10, .inl tt))]) rfl rfl ?_
            exact r_iret C E dX3_usedBy_41 (nle rfl) (nle rfl) ⟨by rw [ub_1 h6 hub (show i < tn by omega) h32], rfl⟩
    exact L_13 (tn + 1) 0 (by omega) (by omega)   (fun k h => absurd h (Nat.not_lt_zero k))
  · refine r_iconst C dX3_usedBy_9 (v := 0) (by decide) ?_
    refine r_ws [1, 2, 3, 0] (ws2 := [(m0, .inr (3, [.ref n0, .ref q0, .int (nI sv), .ref r0, .ref t0, .ref w0, .ref u0, .ref v0, .ref y0, .int (nI tn), .long hs])), (n0, .inl (cI, 148, .inl nw)), (t0, .inl (cI, 10, .inl tg)), (v0, .inl (cI, 10, .inl tt))]) rfl rfl ?_
    exact r_iret C E dX3_usedBy_10 (nle rfl) (nle rfl) ⟨by rw [ub_0 h6], rfl⟩
set_option maxHeartbeats 4000000 in
set_option maxRecDepth 100000 in
/-- plans() -/
theorem c_X3_plans (l : Launch) (D : va_G) (cI cR : ClassId) (m0 : Nat) (n0 : Nat) (q0 : Nat) (sv : Nat) (r0 : Nat) (t0 : Nat) (w0 : Nat) (u0 : Nat) (v0 : Nat) (y0 : Nat) (tm : Int32) (hs : Int64) (nw : Nat → Int32) (tg : Nat → Int32) (tt : Nat → Int32) (us : Nat → Int32) (nl : Nat) (e0 : nw 0 = nI nl) (hnl : nl ≤ 10) : Ctr l D cI cR yX3_plans cX3_plans 3 none ({ frames := 3, cells := 0, slots := 0, locals := 66 }) [.ref m0] [(m0, .inr (3, [.ref n0, .ref q0, .int (nI sv), .ref r0, .ref t0, .ref w0, .ref u0, .ref v0, .ref y0, .int tm, .long hs])), (n0, .inl (cI, 148, .inl nw)), (t0, .inl (cI, 10, .inl tg)), (v0, .inl (cI, 10, .inl tt)), (y0, .inl (cI, 10, .inl us))] (rP none [(m0, .inr (3, [.ref n0, .ref q0, .int (nI sv), .ref r0, .ref t0, .ref w0, .ref u0, .ref v0, .ref y0, .int (nI (tmF nw tg tt nl)), .long hs])), (n0, .inl (cI, 148, .inl nw)), (t0, .inl (cI, 10, .inl tg)), (v0, .inl (cI, 10, .inl (ttF nw tg tt nl))), (y0, .inl (cI, 10, .inl (usW nw tg (ttF nw tg tt nl) (tmF nw tg tt nl) us nl)))]) := by
  refine ctr_of (lv0 := [(0, .ref m0)]) (by decide) (nle rfl) rfl (fun G C E => ?_)
  refine r_aload_n C dX3_plans_0 0 rfl ?_
  refine r_iconst C dX3_plans_1 (v := 0) (by decide) ?_
  refine r_put C clX3 dX3_plans_2 0 9 rfl (by decide) q_408 rfl rfl rfl (nle rfl) (ws2 := [(m0, .inr (3, [.ref n0, .ref q0, .int (nI sv), .ref r0, .ref t0, .ref w0, .ref u0, .ref v0, .ref y0, .int 0, .long hs])), (n0, .inl (cI, 148, .inl nw)), (t0, .inl (cI, 10, .inl tg)), (v0, .inl (cI, 10, .inl tt)), (y0, .inl (cI, 10, .inl us))]) rfl ?_
  refine r_iconst C dX3_plans_5 (v := 0) (by decide) ?_
  refine r_istore_n C dX3_plans_6 (lv2 := [(1, .int 0), (0, .ref m0)]) (by decide) rfl ?_
  have L_7 : ∀ (z i : Nat), i ≤ 100 → 100 < i + z → ∀ (tv : Nat) (tf : Nat → Int32), tv = (plO nw tg tt nl i).1 → tf = (plO nw tg tt nl i).2 → tv ≤ plG nw tg i nl → Wr G 0 0 7 [(1, .int (nI i)), (0, .ref m0)] [] [(m0, .inr (3, [.ref n0, .ref q0, .int (nI sv), .ref r0, .ref t0, .ref w0, .ref u0, .ref v0, .ref y0, .int (nI tv), .long hs])), (n0, .inl (cI, 148, .inl nw)), (t0, .inl (cI, 10, .inl tg)), (v0, .inl (cI, 10, .inl tf)), (y0, .inl (cI, 10, .inl us))] := by
    intro z
    induction z with
    | zero => intro i h1 h2; exact absurd h2 (by omega)
    | succ z ih_7 =>
      intro i hi_7 hz_7 tv tf e_tv e_tf hco
      refine r_iload_n C dX3_plans_7 0 rfl ?_
      refine r_bipush C dX3_plans_8 (v := 100) (by decide) ?_
      refine r_icmp_ge C dX3_plans_10 (tgt := 75) (by decide) (fun c_1 => ?_) (fun c_1 => ?_)
      · have n_2 := (nI_leI (a := 100) (b := i) (by omega) (by omega)).mp c_1
        have ex_7 : i = 100 := by omega
        subst ex_7
        subst e_tv
        subst e_tf
        refine r_iconst C dX3_plans_75 (v := 0) (by decide) ?_
        refine r_istore_n C dX3_plans_76 (lv2 := [(1, .int 0), (0, .ref m0)]) (by decide) rfl ?_
        have L_77 : ∀ (z i : Nat), i ≤ nl → nl < i + z → ∀ (uf : Nat → Int32), uf = usW nw tg (ttF nw tg tt nl) (tmF nw tg tt nl) us i → Wr G 0 0 77 [(1, .int (nI i)), (0, .ref m0)] [] [(m0, .inr (3, [.ref n0, .ref q0, .int (nI sv), .ref r0, .ref t0, .ref w0, .ref u0, .ref v0, .ref y0, .int (nI ((plO nw tg tt nl 100).1)), .long hs])), (n0, .inl (cI, 148, .inl nw)), (t0, .inl (cI, 10, .inl tg)), (v0, .inl (cI, 10, .inl ((plO nw tg tt nl 100).2))), (y0, .inl (cI, 10, .inl uf))] := by
          intro z
          induction z with
          | zero => intro i h1 h2; exact absurd h2 (by omega)
          | succ z ih_77 =>
            intro i hi_77 hz_77 uf e_uf
            refine r_iload_n C dX3_plans_77 0 rfl ?_
            refine r_aload_n C dX3_plans_78 1 rfl ?_
            refine r_get C clX3 dX3_plans_79 0 0 rfl (by decide) q_399 rfl ?_
            refine r_iconst C dX3_plans_82 (v := 0) (by decide) ?_
            refine r_iald C dX3_plans_83 1 rfl 0 rfl (by decide) (by decide) ?_
            refine r_top (b := nI nl) e0 ?_
            refine r_icmp_ge C dX3_plans_84 (tgt := 104) (by decide) (fun c_3 => ?_) (fun c_3 => ?_)
            · have n_4 := (nI_leI (a := nl) (b := i) (by omega) (by omega)).mp c_3
              have ex_77 : nl = i := by omega
              subst ex_77
              subst e_uf
              exact r_vret C E dX3_plans_104 (nle rfl) (nle rfl) ⟨rfl, rfl⟩
            · have n_4 := mt (nI_leI (a := nl) (b := i) (by omega) (by omega)).mpr c_3
              refine r_aload_n C dX3_plans_87 1 rfl ?_
              refine r_get C clX3 dX3_plans_88 0 8 rfl (by decide) q_407 rfl ?_
              refine r_iload_n C dX3_plans_91 0 rfl ?_
              refine r_aload_n C dX3_plans_92 1 rfl ?_
              refine r_iload_n C dX3_plans_93 0 rfl ?_
              refine r_callV C (As := [.int (nI i)]) (rest := [.int (nI i), .ref y0]) (wr := [(y0, .inl (cI, 10, .inl uf))]) (c_X3_usedBy l D cI cR m0 n0 q0 sv r0 t0 w0 u0 v0 y0 hs nw tg ((plO nw tg tt nl 100).2) ((plO nw tg tt nl 100).1) i (by first | assumption | omega) (Nat.le_trans (tm_le nw tg tt nl) hnl)) k_X3_usedBy rfl dX3_plans_94 q_573 q_575 q_25 ⟨nle rfl, nle rfl⟩ [0, 1, 2, 3] [4] rfl rfl rfl rfl (by decide) 0 rfl rfl rfl (nle rfl) ⟨nle rfl, nle rfl⟩ (r_fin (st2 := [.int (ubF nw tg ((plO nw tg tt nl 100).2) ((plO nw tg tt nl 100).1) i), .int (nI i), .ref y0]) (ws2 := [(y0, .inl (cI, 10, .inl uf)), (m0, .inr (3, [.ref n0, .ref q0, .int (nI sv), .ref r0, .ref t0, .ref w0, .ref u0, .ref v0, .ref y0, .int (nI ((plO nw tg tt nl 100).1)), .long hs])), (n0, .inl (cI, 148, .inl nw)), (t0, .inl (cI, 10, .inl tg)), (v0, .inl (cI, 10, .inl ((plO nw tg tt nl 100).2)))]) rfl rfl ?_)
              refine r_iast C dX3_plans_97 0 rfl i rfl (by omega) (by decide) (ws2 := [(y0, .inl (cI, 10, .inl (upd uf i (ubF nw tg ((plO nw tg tt nl 100).2) ((plO nw tg tt nl 100).1) i)))), (m0, .inr (3, [.ref n0, .ref q0, .int (nI sv), .ref r0, .ref t0, .ref w0, .ref u0, .ref v0, .ref y0, .int (nI ((plO nw tg tt nl 100).1)), .long hs])), (n0, .inl (cI, 148, .inl nw)), (t0, .inl (cI, 10, .inl tg)), (v0, .inl (cI, 10, .inl ((plO nw tg tt nl 100).2)))]) rfl ?_
              refine r_iinc C dX3_plans_98 0 rfl (v := nI (i + 1)) (nI_1 _) (by decide) (lv2 := [(1, .int (nI (i + 1))), (0, .ref m0)]) rfl ?_
              refine r_goto C dX3_plans_101 (tgt := 77) (by decide) ?_
              refine r_ws [1, 2, 3, 4, 0] (ws2 := [(m0, .inr (3, [.ref n0, .ref q0, .int (nI sv), .ref r0, .ref t0, .ref w0, .ref u0, .ref v0, .ref y0, .int (nI ((plO nw tg tt nl 100).1)), .long hs])), (n0, .inl (cI, 148, .inl nw)), (t0, .inl (cI, 10, .inl tg)), (v0, .inl (cI, 10, .inl ((plO nw tg tt nl 100).2))), (y0, .inl (cI, 10, .inl (upd uf i (ubF nw tg ((plO nw tg tt nl 100).2) ((plO nw tg tt nl 100).1) i))))]) rfl rfl ?_
              exact ih_77 (i + 1) (by omega) (by omega) _ (by subst e_uf; rfl) 
        exact L_77 (nl + 1) 0 (by omega) (by omega) _ rfl 
      · have n_2 := mt (nI_leI (a := 100) (b := i) (by omega) (by omega)).mpr c_1
        refine r_iconst C dX3_plans_13 (v := 0) (by decide) ?_
        refine r_istore_n C dX3_plans_14 (lv2 := [(2, .int 0), (1, .int (nI i)), (0, .ref m0)]) (by decide) rfl ?_
        have L_15 : ∀ (z w : Nat), w ≤ nl → nl < w + z → ∀ (tv2 : Nat) (tf2 : Nat → Int32), tv2 = (plI nw tg i (tv, tf) w).1 → tf2 = (plI nw tg i (tv, tf) w).2 → tv2 ≤ plG nw tg i nl + plE nw tg i w → Wr G 0 0 15 [(2, .int (nI w)), (1, .int (nI i)), (0, .ref m0)] [] [(m0, .inr (3, [.ref n0, .ref q0, .int (nI sv), .ref r0, .ref t0, .ref w0, .ref u0, .ref v0, .ref y0, .int (nI tv2), .long hs])), (n0, .inl (cI, 148, .inl nw)), (t0, .inl (cI, 10, .inl tg)), (v0, .inl (cI, 10, .inl tf2)), (y0, .inl (cI, 10, .inl us))] := by
          intro z
          induction z with
          | zero => intro w h1 h2; exact absurd h2 (by omega)
          | succ z ih_15 =>
            intro w hi_15 hz_15 tv2 tf2 e_tv2 e_tf2 hct
            refine r_iload_n C dX3_plans_15 0 rfl ?_
            refine r_aload_n C dX3_plans_16 2 rfl ?_
            refine r_get C clX3 dX3_plans_17 0 0 rfl (by decide) q_399 rfl ?_
            refine r_iconst C dX3_plans_20 (v := 0) (by decide) ?_
            refine r_iald C dX3_plans_21 1 rfl 0 rfl (by decide) (by decide) ?_
            refine r_top (b := nI nl) e0 ?_
            refine r_icmp_ge C dX3_plans_22 (tgt := 69) (by decide) (fun c_5 => ?_) (fun c_5 => ?_)
            · have n_6 := (nI_leI (a := nl) (b := w) (by omega) (by omega)).mp c_5
              have ex_15 : nl = w := by omega
              subst ex_15
              refine r_iinc C dX3_plans_69 1 rfl (v := nI (i + 1)) (nI_1 _) (by decide) (lv2 := [(1, .int (nI (i + 1))), (2, .int (nI nl)), (0, .ref m0)]) rfl ?_
              refine r_goto C dX3_plans_72 (tgt := 7) (by decide) ?_
              refine r_lv [0, 2] (lv2 := [(1, .int (nI (i + 1))), (0, .ref m0)]) rfl ?_
              exact ih_7 (i + 1) (by omega) (by omega) _ _ (by subst e_tv2; subst e_tf2; subst e_tv; subst e_tf; rfl) (by subst e_tv2; subst e_tf2; subst e_tv; subst e_tf; rfl) (pl_out hi_7 hct)
            · have n_6 := mt (nI_leI (a := nl) (b := w) (by omega) (by omega)).mpr c_5
              refine r_aload_n C dX3_plans_25 2 rfl ?_
              refine r_iload_n C dX3_plans_26 0 rfl ?_
              refine r_callV C (As := [.int (nI w)]) (rest := []) (wr := [(v0, .inl (cI, 10, .inl tf2)), (y0, .inl (cI, 10, .inl us))]) (c_X3_greatest l D cI cR m0 n0 q0 sv r0 t0 w0 u0 v0 y0 (nI tv2) hs nw tg w (by first | assumption | omega)) k_X3_greatest rfl dX3_plans_27 q_561 q_563 q_22 ⟨nle rfl, nle rfl⟩ [0, 1, 2] [3, 4] rfl rfl rfl rfl (by decide) 0 rfl rfl rfl (nle rfl) ⟨nle rfl, nle rfl⟩ (r_fin (st2 := [.int (grF nw tg w)]) (ws2 := [(v0, .inl (cI, 10, .inl tf2)), (y0, .inl (cI, 10, .inl us)), (m0, .inr (3, [.ref n0, .ref q0, .int (nI sv), .ref r0, .ref t0, .ref w0, .ref u0, .ref v0, .ref y0, .int (nI tv2), .long hs])), (n0, .inl (cI, 148, .inl nw)), (t0, .inl (cI, 10, .inl tg))]) rfl rfl ?_)
              refine r_iload_n C dX3_plans_30 1 rfl ?_
              refine r_icmp_ne C dX3_plans_31 (tgt := 63) (by decide) (fun h31 => ?_) (fun h31 => ?_)
              · refine r_iinc C dX3_plans_63 0 rfl (v := nI (w + 1)) (nI_1 _) (by decide) (lv2 := [(2, .int (nI (w + 1))), (1, .int (nI i)), (0, .ref m0)]) rfl ?_
                refine r_goto C dX3_plans_66 (tgt := 15) (by decide) ?_
                refine r_ws [2, 3, 4, 0, 1] (ws2 := [(m0, .inr (3, [.ref n0, .ref q0, .int (nI sv), .ref r0, .ref t0, .ref w0, .ref u0, .ref v0, .ref y0, .int (nI tv2), .long hs])), (n0, .inl (cI, 148, .inl nw)), (t0, .inl (cI, 10, .inl tg)), (v0, .inl (cI, 10, .inl tf2)), (y0, .inl (cI, 10, .inl us))]) rfl rfl ?_
                exact ih_15 (w + 1) (by omega) (by omega) _ _ (by subst e_tv2; subst e_tf2; simp only [plI, if_neg c_5, if_neg h31]) (by subst e_tv2; subst e_tf2; simp only [plI, if_neg c_5, if_neg h31]) (by first | exact pl_s1 hct h31 | exact pl_s0 hct)
              · refine r_aload_n C dX3_plans_34 2 rfl ?_
                refine r_iload_n C dX3_plans_35 0 rfl ?_
                refine r_callV C (As := [.int (nI w)]) (rest := []) (wr := [(y0, .inl (cI, 10, .inl us))]) (c_X3_usedBy l D cI cR m0 n0 q0 sv r0 t0 w0 u0 v0 y0 hs nw tg tf2 tv2 w (by first | assumption | omega) (pl_tn hnl hi_7 (by omega) hct)) k_X3_usedBy rfl dX3_plans_36 q_573 q_575 q_25 ⟨nle rfl, nle rfl⟩ [2, 3, 4, 0] [1] rfl rfl rfl rfl (by decide) 0 rfl rfl rfl (nle rfl) ⟨nle rfl, nle rfl⟩ (r_fin (st2 := [.int (ubF nw tg tf2 tv2 w)]) (ws2 := [(y0, .inl (cI, 10, .inl us)), (m0, .inr (3, [.ref n0, .ref q0, .int (nI sv), .ref r0, .ref t0, .ref w0, .ref u0, .ref v0, .ref y0, .int (nI tv2), .long hs])), (n0, .inl (cI, 148, .inl nw)), (t0, .inl (cI, 10, .inl tg)), (v0, .inl (cI, 10, .inl tf2))]) rfl rfl ?_)
                refine r_iconst C dX3_plans_39 (v := (-1)) (by decide) ?_
                refine r_icmp_ne C dX3_plans_40 (tgt := 63) (by decide) (fun h40 => ?_) (fun h40 => ?_)
                · refine r_iinc C dX3_plans_63 0 rfl (v := nI (w + 1)) (nI_1 _) (by decide) (lv2 := [(2, .int (nI (w + 1))), (1, .int (nI i)), (0, .ref m0)]) rfl ?_
                  refine r_goto C dX3_plans_66 (tgt := 15) (by decide) ?_
                  refine r_ws [1, 2, 3, 4, 0] (ws2 := [(m0, .inr (3, [.ref n0, .ref q0, .int (nI sv), .ref r0, .ref t0, .ref w0, .ref u0, .ref v0, .ref y0, .int (nI tv2), .long hs])), (n0, .inl (cI, 148, .inl nw)), (t0, .inl (cI, 10, .inl tg)), (v0, .inl (cI, 10, .inl tf2)), (y0, .inl (cI, 10, .inl us))]) rfl rfl ?_
                  exact ih_15 (w + 1) (by omega) (by omega) _ _ (by subst e_tv2; subst e_tf2; simp only [plI, if_neg c_5, if_pos h31, if_neg h40]) (by subst e_tv2; subst e_tf2; simp only [plI, if_neg c_5, if_pos h31, if_neg h40]) (by first | exact pl_s1 hct h31 | exact pl_s0 hct)
                · refine r_aload_n C dX3_plans_43 2 rfl ?_
                  refine r_get C clX3 dX3_plans_44 1 7 rfl (by decide) q_406 rfl ?_
                  refine r_aload_n C dX3_plans_47 2 rfl ?_
                  refine r_get C clX3 dX3_plans_48 1 9 rfl (by decide) q_408 rfl ?_
                  refine r_iload_n C dX3_plans_51 1 rfl ?_
                  have hroom := pl_room hnl (show w < nl by omega) hi_7 h31 hct
                  refine r_iast C dX3_plans_52 4 rfl tv2 rfl (by omega) (by decide) (ws2 := [(y0, .inl (cI, 10, .inl us)), (m0, .inr (3, [.ref n0, .ref q0, .int (nI sv), .ref r0, .ref t0, .ref w0, .ref u0, .ref v0, .ref y0, .int (nI tv2), .long hs])), (n0, .inl (cI, 148, .inl nw)), (t0, .inl (cI, 10, .inl tg)), (v0, .inl (cI, 10, .inl (upd tf2 tv2 (nI i))))]) rfl ?_
                  refine r_aload_n C dX3_plans_53 2 rfl ?_
                  refine r_dup C dX3_plans_54 rfl ?_
                  refine r_get C clX3 dX3_plans_55 1 9 rfl (by decide) q_408 rfl ?_
                  refine r_iconst C dX3_plans_58 (v := 1) (by decide) ?_
                  refine r_iadd C dX3_plans_59 ?_
                  refine r_top (b := nI (tv2 + 1)) (nA rfl rfl) ?_
                  refine r_put C clX3 dX3_plans_60 1 9 rfl (by decide) q_408 rfl rfl rfl (nle rfl) (ws2 := [(y0, .inl (cI, 10, .inl us)), (m0, .inr (3, [.ref n0, .ref q0, .int (nI sv), .ref r0, .ref t0, .ref w0, .ref u0, .ref v0, .ref y0, .int (nI (tv2 + 1)), .long hs])), (n0, .inl (cI, 148, .inl nw)), (t0, .inl (cI, 10, .inl tg)), (v0, .inl (cI, 10, .inl (upd tf2 tv2 (nI i))))]) rfl ?_
                  refine r_iinc C dX3_plans_63 0 rfl (v := nI (w + 1)) (nI_1 _) (by decide) (lv2 := [(2, .int (nI (w + 1))), (1, .int (nI i)), (0, .ref m0)]) rfl ?_
                  refine r_goto C dX3_plans_66 (tgt := 15) (by decide) ?_
                  refine r_ws [1, 2, 3, 4, 0] (ws2 := [(m0, .inr (3, [.ref n0, .ref q0, .int (nI sv), .ref r0, .ref t0, .ref w0, .ref u0, .ref v0, .ref y0, .int (nI (tv2 + 1)), .long hs])), (n0, .inl (cI, 148, .inl nw)), (t0, .inl (cI, 10, .inl tg)), (v0, .inl (cI, 10, .inl (upd tf2 tv2 (nI i)))), (y0, .inl (cI, 10, .inl us))]) rfl rfl ?_
                  exact ih_15 (w + 1) (by omega) (by omega) _ _ (by subst e_tv2; subst e_tf2; simp only [plI, if_neg c_5, if_pos h31, if_pos h40]) (by subst e_tv2; subst e_tf2; simp only [plI, if_neg c_5, if_pos h31, if_pos h40]) (by first | exact pl_s1 hct h31 | exact pl_s0 hct)
        exact L_15 (nl + 1) 0 (by omega) (by omega) _ _ rfl rfl (Nat.le_trans hco (Nat.le_add_right _ _))
  exact L_7 (100 + 1) 0 (by omega) (by omega) _ _ rfl rfl (Nat.zero_le _)
set_option maxHeartbeats 4000000 in
set_option maxRecDepth 100000 in
/-- minutesOf(dip) -/
theorem c_X3_minutesOf (l : Launch) (D : va_G) (cI cR : ClassId) (m0 : Nat) (n0 : Nat) (q0 : Nat) (sv : Nat) (r0 : Nat) (t0 : Nat) (w0 : Nat) (u0 : Nat) (v0 : Nat) (y0 : Nat) (tm : Int32) (hs : Int64) (tt : Nat → Int32) (dp : Nat) (hdp : dp < 10) : Ctr l D cI cR yX3_minutesOf cX3_minutesOf 2 ((some .int)) ({ frames := 0, cells := 0, slots := 0, locals := 0 }) [.ref m0, .int (nI dp)] [(m0, .inr (3, [.ref n0, .ref q0, .int (nI sv), .ref r0, .ref t0, .ref w0, .ref u0, .ref v0, .ref y0, .int tm, .long hs])), (v0, .inl (cI, 10, .inl tt))] (rP (some (.int (tt dp - tb2 tt dp))) [(m0, .inr (3, [.ref n0, .ref q0, .int (nI sv), .ref r0, .ref t0, .ref w0, .ref u0, .ref v0, .ref y0, .int tm, .long hs])), (v0, .inl (cI, 10, .inl tt))]) := by
  refine ctr_of (lv0 := [(0, .ref m0), (1, .int (nI dp))]) (by decide) (nle rfl) rfl (fun G C E => ?_)
  refine r_aload_n C dX3_minutesOf_0 0 rfl ?_
  refine r_get C clX3 dX3_minutesOf_1 0 7 rfl (by decide) q_406 rfl ?_
  refine r_iload_n C dX3_minutesOf_4 1 rfl ?_
  refine r_iald C dX3_minutesOf_5 1 rfl dp rfl (by omega) (by decide) ?_
  refine r_iload_n C dX3_minutesOf_6 1 rfl ?_
  have J_4 : ∀ (v_3 : Int32), v_3 = (if (nI dp) = 0 then (0 : Int32) else (tt (dp - 1))) → Wr G 0 0 22 [(0, .ref m0), (1, .int (nI dp))] [.int v_3, .int (tt dp)] [(m0, .inr (3, [.ref n0, .ref q0, .int (nI sv), .ref r0, .ref t0, .ref w0, .ref u0, .ref v0, .ref y0, .int tm, .long hs])), (v0, .inl (cI, 10, .inl tt))] := by
    intro v_3 ev_3
    subst ev_3
    refine r_isub C dX3_minutesOf_22 ?_
    exact r_iret C E dX3_minutesOf_23 (nle rfl) (nle rfl) ⟨rfl, rfl⟩
  refine r_if_ne C dX3_minutesOf_7 (tgt := 14) (by decide) (fun c_1 => ?_) (fun c_1 => ?_)
  · have n_2 := mt (nI_eq (a := dp) (b := 0) (by omega) (by omega)).mpr c_1
    refine r_aload_n C dX3_minutesOf_14 0 rfl ?_
    refine r_get C clX3 dX3_minutesOf_15 0 7 rfl (by decide) q_406 rfl ?_
    refine r_iload_n C dX3_minutesOf_18 1 rfl ?_
    refine r_iconst C dX3_minutesOf_19 (v := 1) (by decide) ?_
    refine r_isub C dX3_minutesOf_20 ?_
    refine r_top (b := nI (dp - 1)) (pk_sub (b := 1) (by omega)) ?_
    refine r_iald C dX3_minutesOf_21 1 rfl (dp - 1) rfl (by omega) (by decide) ?_
    exact J_4 _ (by first | rfl | simp only [if_neg c_1])
  · have n_2 := (nI_eq (a := dp) (b := 0) (by omega) (by omega)).mp c_1
    refine r_iconst C dX3_minutesOf_10 (v := 0) (by decide) ?_
    refine r_goto C dX3_minutesOf_11 (tgt := 22) (by decide) ?_
    exact J_4 _ (by first | rfl | simp only [if_pos c_1])
set_option maxHeartbeats 4000000 in
set_option maxRecDepth 100000 in
/-- doneBefore(dip) -/
theorem c_X3_doneBefore (l : Launch) (D : va_G) (cI cR : ClassId) (m0 : Nat) (n0 : Nat) (q0 : Nat) (sv : Nat) (r0 : Nat) (t0 : Nat) (w0 : Nat) (u0 : Nat) (v0 : Nat) (y0 : Nat) (tm : Int32) (hs : Int64) (nw : Nat → Int32) (tt : Nat → Int32) (us : Nat → Int32) (nl : Nat) (dp : Nat) (e0 : nw 0 = nI nl) (hnl : nl ≤ 10) (hdp : dp < 10) : Ctr l D cI cR yX3_doneBefore cX3_doneBefore 4 ((some .int)) ({ frames := 0, cells := 0, slots := 0, locals := 0 }) [.ref m0, .int (nI dp)] [(m0, .inr (3, [.ref n0, .ref q0, .int (nI sv), .ref r0, .ref t0, .ref w0, .ref u0, .ref v0, .ref y0, .int tm, .long hs])), (n0, .inl (cI, 148, .inl nw)), (v0, .inl (cI, 10, .inl tt)), (y0, .inl (cI, 10, .inl us))] (rP (some (.int (dbF us (tb2 tt dp) nl))) [(m0, .inr (3, [.ref n0, .ref q0, .int (nI sv), .ref r0, .ref t0, .ref w0, .ref u0, .ref v0, .ref y0, .int tm, .long hs])), (n0, .inl (cI, 148, .inl nw)), (v0, .inl (cI, 10, .inl tt)), (y0, .inl (cI, 10, .inl us))]) := by
  refine ctr_of (lv0 := [(0, .ref m0), (1, .int (nI dp))]) (by decide) (nle rfl) rfl (fun G C E => ?_)
  refine r_iconst C dX3_doneBefore_0 (v := 0) (by decide) ?_
  refine r_istore_n C dX3_doneBefore_1 (lv2 := [(2, .int 0), (0, .ref m0), (1, .int (nI dp))]) (by decide) rfl ?_
  refine r_iconst C dX3_doneBefore_2 (v := 0) (by decide) ?_
  refine r_istore_n C dX3_doneBefore_3 (lv2 := [(3, .int 0), (2, .int 0), (0, .ref m0), (1, .int (nI dp))]) (by decide) rfl ?_
  have L_4 : ∀ (z i : Nat), i ≤ nl → nl < i + z → ∀ (se : Int32), se = dbF us (tb2 tt dp) i → Wr G 0 0 4 [(3, .int (nI i)), (2, .int se), (0, .ref m0), (1, .int (nI dp))] [] [(m0, .inr (3, [.ref n0, .ref q0, .int (nI sv), .ref r0, .ref t0, .ref w0, .ref u0, .ref v0, .ref y0, .int tm, .long hs])), (n0, .inl (cI, 148, .inl nw)), (v0, .inl (cI, 10, .inl tt)), (y0, .inl (cI, 10, .inl us))] := by
    intro z
    induction z with
    | zero => intro i h1 h2; exact absurd h2 (by omega)
    | succ z ih_4 =>
      intro i hi_4 hz_4 se e_se
      refine r_iload_n C dX3_doneBefore_4 0 rfl ?_
      refine r_aload_n C dX3_doneBefore_5 2 rfl ?_
      refine r_get C clX3 dX3_doneBefore_6 0 0 rfl (by decide) q_399 rfl ?_
      refine r_iconst C dX3_doneBefore_9 (v := 0) (by decide) ?_
      refine r_iald C dX3_doneBefore_10 1 rfl 0 rfl (by decide) (by decide) ?_
      refine r_top (b := nI nl) e0 ?_
      refine r_icmp_ge C dX3_doneBefore_11 (tgt := 55) (by decide) (fun c_1 => ?_) (fun c_1 => ?_)
      · have n_2 := (nI_leI (a := nl) (b := i) (by omega) (by omega)).mp c_1
        have ex_4 : nl = i := by omega
        subst ex_4
        subst e_se
        refine r_iload_n C dX3_doneBefore_55 1 rfl ?_
        exact r_iret C E dX3_doneBefore_56 (nle rfl) (nle rfl) ⟨rfl, rfl⟩
      · have n_2 := mt (nI_leI (a := nl) (b := i) (by omega) (by omega)).mpr c_1
        refine r_iload_n C dX3_doneBefore_14 1 rfl ?_
        refine r_aload_n C dX3_doneBefore_15 2 rfl ?_
        refine r_get C clX3 dX3_doneBefore_16 0 8 rfl (by decide) q_407 rfl ?_
        refine r_iload_n C dX3_doneBefore_19 0 rfl ?_
        refine r_iald C dX3_doneBefore_20 3 rfl i rfl (by omega) (by decide) ?_
        refine r_iload_n C dX3_doneBefore_21 3 rfl ?_
        have J_6 : ∀ (v_5 : Int32), v_5 = (if (nI dp) = 0 then (0 : Int32) else (tt (dp - 1))) → Wr G 0 0 37 [(3, .int (nI i)), (2, .int se), (0, .ref m0), (1, .int (nI dp))] [.int v_5, .int (us i), .int se] [(m0, .inr (3, [.ref n0, .ref q0, .int (nI sv), .ref r0, .ref t0, .ref w0, .ref u0, .ref v0, .ref y0, .int tm, .long hs])), (n0, .inl (cI, 148, .inl nw)), (v0, .inl (cI, 10, .inl tt)), (y0, .inl (cI, 10, .inl us))] := by
          intro v_5 ev_5
          subst ev_5
          have J_9 : ∀ (v_8 : Int32), v_8 = (if (if (nI dp) = 0 then (0 : Int32) else (tt (dp - 1))) < (us i) then (0 : Int32) else (1 <<< (nI i &&& 31))) → Wr G 0 0 47 [(3, .int (nI i)), (2, .int se), (0, .ref m0), (1, .int (nI dp))] [.int v_8, .int se] [(m0, .inr (3, [.ref n0, .ref q0, .int (nI sv), .ref r0, .ref t0, .ref w0, .ref u0, .ref v0, .ref y0, .int tm, .long hs])), (n0, .inl (cI, 148, .inl nw)), (v0, .inl (cI, 10, .inl tt)), (y0, .inl (cI, 10, .inl us))] := by
            intro v_8 ev_8
            subst ev_8
            refine r_ior C dX3_doneBefore_47 ?_
            refine r_istore_n C dX3_doneBefore_48 (lv2 := [(2, .int (se ||| (if (if (nI dp) = 0 then (0 : Int32) else (tt (dp - 1))) < (us i) then (0 : Int32) else (1 <<< (nI i &&& 31))))), (3, .int (nI i)), (0, .ref m0), (1, .int (nI dp))]) (by decide) rfl ?_
            refine r_iinc C dX3_doneBefore_49 1 rfl (v := nI (i + 1)) (nI_1 _) (by decide) (lv2 := [(3, .int (nI (i + 1))), (2, .int (se ||| (if (if (nI dp) = 0 then (0 : Int32) else (tt (dp - 1))) < (us i) then (0 : Int32) else (1 <<< (nI i &&& 31))))), (0, .ref m0), (1, .int (nI dp))]) rfl ?_
            refine r_goto C dX3_doneBefore_52 (tgt := 4) (by decide) ?_
            exact ih_4 (i + 1) (by omega) (by omega) _ (by subst e_se; rfl) 
          refine r_icmp_gt C dX3_doneBefore_37 (tgt := 46) (by decide) (fun c_7 => ?_) (fun c_7 => ?_)
          · refine r_iconst C dX3_doneBefore_46 (v := 0) (by decide) ?_
            exact J_9 _ (by first | rfl | simp only [if_pos c_7])
          · refine r_iconst C dX3_doneBefore_40 (v := 1) (by decide) ?_
            refine r_iload_n C dX3_doneBefore_41 0 rfl ?_
            refine r_ishl C dX3_doneBefore_42 ?_
            refine r_goto C dX3_doneBefore_43 (tgt := 47) (by decide) ?_
            exact J_9 _ (by first | rfl | simp only [if_neg c_7])
        refine r_if_ne C dX3_doneBefore_22 (tgt := 29) (by decide) (fun c_3 => ?_) (fun c_3 => ?_)
        · have n_4 := mt (nI_eq (a := dp) (b := 0) (by omega) (by omega)).mpr c_3
          refine r_aload_n C dX3_doneBefore_29 2 rfl ?_
          refine r_get C clX3 dX3_doneBefore_30 0 7 rfl (by decide) q_406 rfl ?_
          refine r_iload_n C dX3_doneBefore_33 3 rfl ?_
          refine r_iconst C dX3_doneBefore_34 (v := 1) (by decide) ?_
          refine r_isub C dX3_doneBefore_35 ?_
          refine r_top (b := nI (dp - 1)) (pk_sub (b := 1) (by omega)) ?_
          refine r_iald C dX3_doneBefore_36 2 rfl (dp - 1) rfl (by omega) (by decide) ?_
          exact J_6 _ (by first | rfl | simp only [if_neg c_3])
        · have n_4 := (nI_eq (a := dp) (b := 0) (by omega) (by omega)).mp c_3
          refine r_iconst C dX3_doneBefore_25 (v := 0) (by decide) ?_
          refine r_goto C dX3_doneBefore_26 (tgt := 37) (by decide) ?_
          exact J_6 _ (by first | rfl | simp only [if_pos c_3])
  exact L_4 (nl + 1) 0 (by omega) (by omega) _ rfl 
set_option maxHeartbeats 4000000 in
set_option maxRecDepth 100000 in
/-- dips(), a plan -/
theorem c_X3_dips_ok (l : Launch) (D : va_G) (cI cR : ClassId) (m0 : Nat) (n0 : Nat) (q0 : Nat) (sv : Nat) (r0 : Nat) (t0 : Nat) (w0 : Nat) (u0 : Nat) (v0 : Nat) (y0 : Nat) (tm : Int32) (hs : Int64) (nw : Nat → Int32) (tg : Nat → Int32) (tt : Nat → Int32) (us : Nat → Int32) (nl : Nat) (e0 : nw 0 = nI nl) (hnl : nl ≤ 10) (hb : obF nw tg nl = 0) : Ctr l D cI cR yX3_dips cX3_dips 1 ((some .int)) ({ frames := 4, cells := 0, slots := 0, locals := 88 }) [.ref m0] [(m0, .inr (3, [.ref n0, .ref q0, .int (nI sv), .ref r0, .ref t0, .ref w0, .ref u0, .ref v0, .ref y0, .int tm, .long hs])), (n0, .inl (cI, 148, .inl nw)), (t0, .inl (cI, 10, .inl tg)), (v0, .inl (cI, 10, .inl tt)), (y0, .inl (cI, 10, .inl us))] (rP (some (.int (nI (tmF nw tg tt nl)))) [(m0, .inr (3, [.ref n0, .ref q0, .int (nI sv), .ref r0, .ref t0, .ref w0, .ref u0, .ref v0, .ref y0, .int (nI (tmF nw tg tt nl)), .long hs])), (n0, .inl (cI, 148, .inl nw)), (t0, .inl (cI, 10, .inl tg)), (v0, .inl (cI, 10, .inl (ttF nw tg tt nl))), (y0, .inl (cI, 10, .inl (usW nw tg (ttF nw tg tt nl) (tmF nw tg tt nl) us nl)))]) := by
  refine ctr_of (lv0 := [(0, .ref m0)]) (by decide) (nle rfl) rfl (fun G C E => ?_)
  refine r_aload_n C dX3_dips_0 0 rfl ?_
  refine r_callV C (As := []) (rest := []) (wr := [(v0, .inl (cI, 10, .inl tt)), (y0, .inl (cI, 10, .inl us))]) (c_X3_blocked l D cI cR m0 n0 q0 sv r0 t0 w0 u0 v0 y0 tm hs nw tg nl (by first | assumption | omega) (by first | assumption | omega)) k_X3_blocked rfl dX3_dips_1 q_557 q_559 q_21 ⟨nle rfl, nle rfl⟩ [0, 1, 2] [3, 4] rfl rfl rfl rfl (by decide) 0 rfl rfl rfl (nle rfl) ⟨nle rfl, nle rfl⟩ (r_fin (st2 := [.int (obF nw tg nl)]) (ws2 := [(v0, .inl (cI, 10, .inl tt)), (y0, .inl (cI, 10, .inl us)), (m0, .inr (3, [.ref n0, .ref q0, .int (nI sv), .ref r0, .ref t0, .ref w0, .ref u0, .ref v0, .ref y0, .int tm, .long hs])), (n0, .inl (cI, 148, .inl nw)), (t0, .inl (cI, 10, .inl tg))]) rfl rfl ?_)
  refine r_if_eq C dX3_dips_4 (tgt := 14) (by decide) (fun c_1 => ?_) (fun c_1 => ?_)
  · refine r_aload_n C dX3_dips_14 0 rfl ?_
    refine r_callV C (As := []) (rest := []) (wr := []) (c_X3_plans l D cI cR m0 n0 q0 sv r0 t0 w0 u0 v0 y0 tm hs nw tg tt us nl (by first | assumption | omega) (by first | assumption | omega)) k_X3_plans rfl dX3_dips_15 q_569 q_571 q_24 ⟨nle rfl, nle rfl⟩ [2, 3, 4, 0, 1] [] rfl rfl rfl rfl (by decide) 0 rfl rfl rfl (nle rfl) ⟨nle rfl, nle rfl⟩ (r_fin (st2 := []) (ws2 := [(m0, .inr (3, [.ref n0, .ref q0, .int (nI sv), .ref r0, .ref t0, .ref w0, .ref u0, .ref v0, .ref y0, .int (nI (tmF nw tg tt nl)), .long hs])), (n0, .inl (cI, 148, .inl nw)), (t0, .inl (cI, 10, .inl tg)), (v0, .inl (cI, 10, .inl (ttF nw tg tt nl))), (y0, .inl (cI, 10, .inl (usW nw tg (ttF nw tg tt nl) (tmF nw tg tt nl) us nl)))]) rfl rfl ?_)
    refine r_aload_n C dX3_dips_18 0 rfl ?_
    refine r_get C clX3 dX3_dips_19 0 9 rfl (by decide) q_408 rfl ?_
    exact r_iret C E dX3_dips_22 (nle rfl) (nle rfl) ⟨rfl, rfl⟩
  · exact absurd hb c_1
set_option maxHeartbeats 4000000 in
set_option maxRecDepth 100000 in
/-- dips(), no plan -/
theorem c_X3_dips_no (l : Launch) (D : va_G) (cI cR : ClassId) (m0 : Nat) (n0 : Nat) (q0 : Nat) (sv : Nat) (r0 : Nat) (t0 : Nat) (w0 : Nat) (u0 : Nat) (v0 : Nat) (y0 : Nat) (tm : Int32) (hs : Int64) (nw : Nat → Int32) (tg : Nat → Int32) (nl : Nat) (er : Nat → Int32) (e0 : nw 0 = nI nl) (hnl : nl ≤ 10) (hb : ¬ obF nw tg nl = 0) : Ctr l D cI cR yX3_dips cX3_dips 1 ((some .int)) ({ frames := 4, cells := 0, slots := 0, locals := 88 }) [.ref m0] [(m0, .inr (3, [.ref n0, .ref q0, .int (nI sv), .ref r0, .ref t0, .ref w0, .ref u0, .ref v0, .ref y0, .int tm, .long hs])), (n0, .inl (cI, 148, .inl nw)), (t0, .inl (cI, 10, .inl tg)), (r0, .inl (cI, 4, .inl er))] (rP (some (.int (-3))) [(m0, .inr (3, [.ref n0, .ref q0, .int (nI sv), .ref r0, .ref t0, .ref w0, .ref u0, .ref v0, .ref y0, .int tm, .long hs])), (n0, .inl (cI, 148, .inl nw)), (t0, .inl (cI, 10, .inl tg)), (r0, .inl (cI, 4, .inl (upd er 1 (er 1 + 1))))]) := by
  refine ctr_of (lv0 := [(0, .ref m0)]) (by decide) (nle rfl) rfl (fun G C E => ?_)
  refine r_aload_n C dX3_dips_0 0 rfl ?_
  refine r_callV C (As := []) (rest := []) (wr := [(r0, .inl (cI, 4, .inl er))]) (c_X3_blocked l D cI cR m0 n0 q0 sv r0 t0 w0 u0 v0 y0 tm hs nw tg nl (by first | assumption | omega) (by first | assumption | omega)) k_X3_blocked rfl dX3_dips_1 q_557 q_559 q_21 ⟨nle rfl, nle rfl⟩ [0, 1, 2] [3] rfl rfl rfl rfl (by decide) 0 rfl rfl rfl (nle rfl) ⟨nle rfl, nle rfl⟩ (r_fin (st2 := [.int (obF nw tg nl)]) (ws2 := [(r0, .inl (cI, 4, .inl er)), (m0, .inr (3, [.ref n0, .ref q0, .int (nI sv), .ref r0, .ref t0, .ref w0, .ref u0, .ref v0, .ref y0, .int tm, .long hs])), (n0, .inl (cI, 148, .inl nw)), (t0, .inl (cI, 10, .inl tg))]) rfl rfl ?_)
  refine r_if_eq C dX3_dips_4 (tgt := 14) (by decide) (fun c_1 => ?_) (fun c_1 => ?_)
  · exact absurd c_1 hb
  · refine r_aload_n C dX3_dips_7 0 rfl ?_
    refine r_bipush C dX3_dips_8 (v := (-3)) (by decide) ?_
    refine r_callV C (As := [.int (-3)]) (rest := []) (wr := [(n0, .inl (cI, 148, .inl nw)), (t0, .inl (cI, 10, .inl tg))]) (c_X3_fails l D cI cR m0 n0 q0 sv r0 t0 w0 u0 v0 y0 tm hs er (-3) 1 (by decide) (by decide)) k_X3_fails rfl dX3_dips_10 q_437 q_439 q_14 ⟨nle rfl, nle rfl⟩ [1, 0] [2, 3] rfl rfl rfl rfl (by decide) 0 rfl rfl rfl (nle rfl) ⟨nle rfl, nle rfl⟩ (r_fin (st2 := [.int (-3)]) (ws2 := [(n0, .inl (cI, 148, .inl nw)), (t0, .inl (cI, 10, .inl tg)), (m0, .inr (3, [.ref n0, .ref q0, .int (nI sv), .ref r0, .ref t0, .ref w0, .ref u0, .ref v0, .ref y0, .int tm, .long hs])), (r0, .inl (cI, 4, .inl (upd er 1 (er 1 + 1))))]) rfl rfl ?_)
    refine r_ws [2, 0, 1, 3] (ws2 := [(m0, .inr (3, [.ref n0, .ref q0, .int (nI sv), .ref r0, .ref t0, .ref w0, .ref u0, .ref v0, .ref y0, .int tm, .long hs])), (n0, .inl (cI, 148, .inl nw)), (t0, .inl (cI, 10, .inl tg)), (r0, .inl (cI, 4, .inl (upd er 1 (er 1 + 1))))]) rfl rfl ?_
    exact r_iret C E dX3_dips_13 (nle rfl) (nle rfl) ⟨rfl, rfl⟩
set_option maxHeartbeats 4000000 in
set_option maxRecDepth 100000 in
/-- obstacles() -/
theorem c_X3_obstacles (l : Launch) (D : va_G) (cI cR : ClassId) (m0 : Nat) (n0 : Nat) (q0 : Nat) (sv : Nat) (r0 : Nat) (t0 : Nat) (w0 : Nat) (u0 : Nat) (v0 : Nat) (y0 : Nat) (tm : Int32) (hs : Int64) (nw : Nat → Int32) (tg : Nat → Int32) (nl : Nat) (e0 : nw 0 = nI nl) (hnl : nl ≤ 10) : Ctr l D cI cR yX3_obstacles cX3_obstacles 1 ((some .int)) ({ frames := 4, cells := 0, slots := 0, locals := 88 }) [.ref m0] [(m0, .inr (3, [.ref n0, .ref q0, .int (nI sv), .ref r0, .ref t0, .ref w0, .ref u0, .ref v0, .ref y0, .int tm, .long hs])), (n0, .inl (cI, 148, .inl nw)), (t0, .inl (cI, 10, .inl tg))] (rP (some (.int (obF nw tg nl))) [(m0, .inr (3, [.ref n0, .ref q0, .int (nI sv), .ref r0, .ref t0, .ref w0, .ref u0, .ref v0, .ref y0, .int tm, .long hs])), (n0, .inl (cI, 148, .inl nw)), (t0, .inl (cI, 10, .inl tg))]) := by
  refine ctr_of (lv0 := [(0, .ref m0)]) (by decide) (nle rfl) rfl (fun G C E => ?_)
  refine r_aload_n C dX3_obstacles_0 0 rfl ?_
  refine r_callV C (As := []) (rest := []) (wr := []) (c_X3_blocked l D cI cR m0 n0 q0 sv r0 t0 w0 u0 v0 y0 tm hs nw tg nl (by first | assumption | omega) (by first | assumption | omega)) k_X3_blocked rfl dX3_obstacles_1 q_557 q_559 q_21 ⟨nle rfl, nle rfl⟩ [0, 1, 2] [] rfl rfl rfl rfl (by decide) 0 rfl rfl rfl (nle rfl) ⟨nle rfl, nle rfl⟩ (r_fin (st2 := [.int (obF nw tg nl)]) (ws2 := [(m0, .inr (3, [.ref n0, .ref q0, .int (nI sv), .ref r0, .ref t0, .ref w0, .ref u0, .ref v0, .ref y0, .int tm, .long hs])), (n0, .inl (cI, 148, .inl nw)), (t0, .inl (cI, 10, .inl tg))]) rfl rfl ?_)
  exact r_iret C E dX3_obstacles_4 (nle rfl) (nle rfl) ⟨rfl, rfl⟩
set_option maxHeartbeats 4000000 in
set_option maxRecDepth 100000 in
/-- X3_against, negative -/
theorem c_X3_against_neg (l : Launch) (D : va_G) (cI cR : ClassId) (m0 : Nat) (n0 : Nat) (q0 : Nat) (sv : Nat) (r0 : Nat) (t0 : Nat) (w0 : Nat) (u0 : Nat) (v0 : Nat) (y0 : Nat) (tm : Int32) (hs : Int64) (er : Nat → Int32) (dx : Int32) (hd : ¬ 0 ≤ dx) : Ctr l D cI cR yX3_against cX3_against 2 ((some .int)) ({ frames := 4, cells := 0, slots := 0, locals := 88 }) [.ref m0, .int dx] [(m0, .inr (3, [.ref n0, .ref q0, .int (nI sv), .ref r0, .ref t0, .ref w0, .ref u0, .ref v0, .ref y0, .int tm, .long hs])), (r0, .inl (cI, 4, .inl er))] (rP (some (.int (-2))) [(m0, .inr (3, [.ref n0, .ref q0, .int (nI sv), .ref r0, .ref t0, .ref w0, .ref u0, .ref v0, .ref y0, .int tm, .long hs])), (r0, .inl (cI, 4, .inl (upd er 0 (er 0 + 1))))]) := by
  refine ctr_of (lv0 := [(0, .ref m0), (1, .int dx)]) (by decide) (nle rfl) rfl (fun G C E => ?_)
  refine r_iload_n C dX3_against_0 1 rfl ?_
  refine r_if_ge C dX3_against_1 (tgt := 11) (by decide) (fun c_1 => ?_) (fun c_1 => ?_)
  · exact absurd c_1 hd
  · refine r_aload_n C dX3_against_4 0 rfl ?_
    refine r_bipush C dX3_against_5 (v := (-2)) (by decide) ?_
    refine r_callV C (As := [.int (-2)]) (rest := []) (wr := []) (c_X3_fails l D cI cR m0 n0 q0 sv r0 t0 w0 u0 v0 y0 tm hs er (-2) 0 (by decide) (by decide)) k_X3_fails rfl dX3_against_7 q_437 q_439 q_14 ⟨nle rfl, nle rfl⟩ [0, 1] [] rfl rfl rfl rfl (by decide) 0 rfl rfl rfl (nle rfl) ⟨nle rfl, nle rfl⟩ (r_fin (st2 := [.int (-2)]) (ws2 := [(m0, .inr (3, [.ref n0, .ref q0, .int (nI sv), .ref r0, .ref t0, .ref w0, .ref u0, .ref v0, .ref y0, .int tm, .long hs])), (r0, .inl (cI, 4, .inl (upd er 0 (er 0 + 1))))]) rfl rfl ?_)
    exact r_iret C E dX3_against_10 (nle rfl) (nle rfl) ⟨rfl, rfl⟩
set_option maxHeartbeats 4000000 in
set_option maxRecDepth 100000 in
/-- X3_against, no plan -/
theorem c_X3_against_no (l : Launch) (D : va_G) (cI cR : ClassId) (m0 : Nat) (n0 : Nat) (q0 : Nat) (sv : Nat) (r0 : Nat) (t0 : Nat) (w0 : Nat) (u0 : Nat) (v0 : Nat) (y0 : Nat) (tm : Int32) (hs : Int64) (nw : Nat → Int32) (tg : Nat → Int32) (nl : Nat) (er : Nat → Int32) (dx : Int32) (e0 : nw 0 = nI nl) (hnl : nl ≤ 10) (hb : ¬ obF nw tg nl = 0) (hd : 0 ≤ dx) : Ctr l D cI cR yX3_against cX3_against 2 ((some .int)) ({ frames := 4, cells := 0, slots := 0, locals := 88 }) [.ref m0, .int dx] [(m0, .inr (3, [.ref n0, .ref q0, .int (nI sv), .ref r0, .ref t0, .ref w0, .ref u0, .ref v0, .ref y0, .int tm, .long hs])), (n0, .inl (cI, 148, .inl nw)), (t0, .inl (cI, 10, .inl tg)), (r0, .inl (cI, 4, .inl er))] (rP (some (.int (-3))) [(m0, .inr (3, [.ref n0, .ref q0, .int (nI sv), .ref r0, .ref t0, .ref w0, .ref u0, .ref v0, .ref y0, .int tm, .long hs])), (n0, .inl (cI, 148, .inl nw)), (t0, .inl (cI, 10, .inl tg)), (r0, .inl (cI, 4, .inl (upd er 1 (er 1 + 1))))]) := by
  refine ctr_of (lv0 := [(0, .ref m0), (1, .int dx)]) (by decide) (nle rfl) rfl (fun G C E => ?_)
  refine r_iload_n C dX3_against_0 1 rfl ?_
  refine r_if_ge C dX3_against_1 (tgt := 11) (by decide) (fun c_1 => ?_) (fun c_1 => ?_)
  · refine r_aload_n C dX3_against_11 0 rfl ?_
    refine r_callV C (As := []) (rest := []) (wr := [(r0, .inl (cI, 4, .inl er))]) (c_X3_blocked l D cI cR m0 n0 q0 sv r0 t0 w0 u0 v0 y0 tm hs nw tg nl (by first | assumption | omega) (by first | assumption | omega)) k_X3_blocked rfl dX3_against_12 q_557 q_559 q_21 ⟨nle rfl, nle rfl⟩ [0, 1, 2] [3] rfl rfl rfl rfl (by decide) 0 rfl rfl rfl (nle rfl) ⟨nle rfl, nle rfl⟩ (r_fin (st2 := [.int (obF nw tg nl)]) (ws2 := [(r0, .inl (cI, 4, .inl er)), (m0, .inr (3, [.ref n0, .ref q0, .int (nI sv), .ref r0, .ref t0, .ref w0, .ref u0, .ref v0, .ref y0, .int tm, .long hs])), (n0, .inl (cI, 148, .inl nw)), (t0, .inl (cI, 10, .inl tg))]) rfl rfl ?_)
    refine r_if_eq C dX3_against_15 (tgt := 25) (by decide) (fun c_2 => ?_) (fun c_2 => ?_)
    · exact absurd c_2 hb
    · refine r_aload_n C dX3_against_18 0 rfl ?_
      refine r_bipush C dX3_against_19 (v := (-3)) (by decide) ?_
      refine r_callV C (As := [.int (-3)]) (rest := []) (wr := [(n0, .inl (cI, 148, .inl nw)), (t0, .inl (cI, 10, .inl tg))]) (c_X3_fails l D cI cR m0 n0 q0 sv r0 t0 w0 u0 v0 y0 tm hs er (-3) 1 (by decide) (by decide)) k_X3_fails rfl dX3_against_21 q_437 q_439 q_14 ⟨nle rfl, nle rfl⟩ [1, 0] [2, 3] rfl rfl rfl rfl (by decide) 0 rfl rfl rfl (nle rfl) ⟨nle rfl, nle rfl⟩ (r_fin (st2 := [.int (-3)]) (ws2 := [(n0, .inl (cI, 148, .inl nw)), (t0, .inl (cI, 10, .inl tg)), (m0, .inr (3, [.ref n0, .ref q0, .int (nI sv), .ref r0, .ref t0, .ref w0, .ref u0, .ref v0, .ref y0, .int tm, .long hs])), (r0, .inl (cI, 4, .inl (upd er 1 (er 1 + 1))))]) rfl rfl ?_)
      refine r_ws [2, 0, 1, 3] (ws2 := [(m0, .inr (3, [.ref n0, .ref q0, .int (nI sv), .ref r0, .ref t0, .ref w0, .ref u0, .ref v0, .ref y0, .int tm, .long hs])), (n0, .inl (cI, 148, .inl nw)), (t0, .inl (cI, 10, .inl tg)), (r0, .inl (cI, 4, .inl (upd er 1 (er 1 + 1))))]) rfl rfl ?_
      exact r_iret C E dX3_against_24 (nle rfl) (nle rfl) ⟨rfl, rfl⟩
  · exact absurd hd c_1
set_option maxHeartbeats 4000000 in
set_option maxRecDepth 100000 in
/-- X3_against, no such dip -/
theorem c_X3_against_far (l : Launch) (D : va_G) (cI cR : ClassId) (m0 : Nat) (n0 : Nat) (q0 : Nat) (sv : Nat) (r0 : Nat) (t0 : Nat) (w0 : Nat) (u0 : Nat) (v0 : Nat) (y0 : Nat) (tm : Int32) (hs : Int64) (nw : Nat → Int32) (tg : Nat → Int32) (tt : Nat → Int32) (us : Nat → Int32) (nl : Nat) (dx : Int32) (e0 : nw 0 = nI nl) (hnl : nl ≤ 10) (hb : obF nw tg nl = 0) (hd : 0 ≤ dx) (hd2 : nI (tmF nw tg tt nl) ≤ dx) : Ctr l D cI cR yX3_against cX3_against 2 ((some .int)) ({ frames := 4, cells := 0, slots := 0, locals := 88 }) [.ref m0, .int dx] [(m0, .inr (3, [.ref n0, .ref q0, .int (nI sv), .ref r0, .ref t0, .ref w0, .ref u0, .ref v0, .ref y0, .int tm, .long hs])), (n0, .inl (cI, 148, .inl nw)), (t0, .inl (cI, 10, .inl tg)), (v0, .inl (cI, 10, .inl tt)), (y0, .inl (cI, 10, .inl us))] (rP (some (.int (-1))) [(m0, .inr (3, [.ref n0, .ref q0, .int (nI sv), .ref r0, .ref t0, .ref w0, .ref u0, .ref v0, .ref y0, .int (nI (tmF nw tg tt nl)), .long hs])), (n0, .inl (cI, 148, .inl nw)), (t0, .inl (cI, 10, .inl tg)), (v0, .inl (cI, 10, .inl (ttF nw tg tt nl))), (y0, .inl (cI, 10, .inl (usW nw tg (ttF nw tg tt nl) (tmF nw tg tt nl) us nl)))]) := by
  refine ctr_of (lv0 := [(0, .ref m0), (1, .int dx)]) (by decide) (nle rfl) rfl (fun G C E => ?_)
  refine r_iload_n C dX3_against_0 1 rfl ?_
  refine r_if_ge C dX3_against_1 (tgt := 11) (by decide) (fun c_1 => ?_) (fun c_1 => ?_)
  · refine r_aload_n C dX3_against_11 0 rfl ?_
    refine r_callV C (As := []) (rest := []) (wr := [(v0, .inl (cI, 10, .inl tt)), (y0, .inl (cI, 10, .inl us))]) (c_X3_blocked l D cI cR m0 n0 q0 sv r0 t0 w0 u0 v0 y0 tm hs nw tg nl (by first | assumption | omega) (by first | assumption | omega)) k_X3_blocked rfl dX3_against_12 q_557 q_559 q_21 ⟨nle rfl, nle rfl⟩ [0, 1, 2] [3, 4] rfl rfl rfl rfl (by decide) 0 rfl rfl rfl (nle rfl) ⟨nle rfl, nle rfl⟩ (r_fin (st2 := [.int (obF nw tg nl)]) (ws2 := [(v0, .inl (cI, 10, .inl tt)), (y0, .inl (cI, 10, .inl us)), (m0, .inr (3, [.ref n0, .ref q0, .int (nI sv), .ref r0, .ref t0, .ref w0, .ref u0, .ref v0, .ref y0, .int tm, .long hs])), (n0, .inl (cI, 148, .inl nw)), (t0, .inl (cI, 10, .inl tg))]) rfl rfl ?_)
    refine r_if_eq C dX3_against_15 (tgt := 25) (by decide) (fun c_2 => ?_) (fun c_2 => ?_)
    · refine r_aload_n C dX3_against_25 0 rfl ?_
      refine r_callV C (As := []) (rest := []) (wr := []) (c_X3_plans l D cI cR m0 n0 q0 sv r0 t0 w0 u0 v0 y0 tm hs nw tg tt us nl (by first | assumption | omega) (by first | assumption | omega)) k_X3_plans rfl dX3_against_26 q_569 q_571 q_24 ⟨nle rfl, nle rfl⟩ [2, 3, 4, 0, 1] [] rfl rfl rfl rfl (by decide) 0 rfl rfl rfl (nle rfl) ⟨nle rfl, nle rfl⟩ (r_fin (st2 := []) (ws2 := [(m0, .inr (3, [.ref n0, .ref q0, .int (nI sv), .ref r0, .ref t0, .ref w0, .ref u0, .ref v0, .ref y0, .int (nI (tmF nw tg tt nl)), .long hs])), (n0, .inl (cI, 148, .inl nw)), (t0, .inl (cI, 10, .inl tg)), (v0, .inl (cI, 10, .inl (ttF nw tg tt nl))), (y0, .inl (cI, 10, .inl (usW nw tg (ttF nw tg tt nl) (tmF nw tg tt nl) us nl)))]) rfl rfl ?_)
      refine r_iload_n C dX3_against_29 1 rfl ?_
      refine r_aload_n C dX3_against_30 0 rfl ?_
      refine r_get C clX3 dX3_against_31 0 9 rfl (by decide) q_408 rfl ?_
      refine r_icmp_ge C dX3_against_34 (tgt := 41) (by decide) (fun c_3 => ?_) (fun c_3 => ?_)
      · refine r_iconst C dX3_against_41 (v := (-1)) (by decide) ?_
        exact r_iret C E dX3_against_42 (nle rfl) (nle rfl) ⟨rfl, rfl⟩
      · exact absurd hd2 c_3
    · exact absurd hb c_2
  · exact absurd hd c_1
set_option maxHeartbeats 4000000 in
set_option maxRecDepth 100000 in
/-- X3_against, of a dip -/
theorem c_X3_against_ok (l : Launch) (D : va_G) (cI cR : ClassId) (m0 : Nat) (n0 : Nat) (q0 : Nat) (sv : Nat) (r0 : Nat) (t0 : Nat) (w0 : Nat) (u0 : Nat) (v0 : Nat) (y0 : Nat) (tm : Int32) (hs : Int64) (nw : Nat → Int32) (tg : Nat → Int32) (tt : Nat → Int32) (us : Nat → Int32) (nl : Nat) (dp : Nat) (e0 : nw 0 = nI nl) (hnl : nl ≤ 10) (hb : obF nw tg nl = 0) (hd : 0 ≤ nI dp) (hd2 : dp < tmF nw tg tt nl) : Ctr l D cI cR yX3_against cX3_against 2 ((some .int)) ({ frames := 4, cells := 0, slots := 0, locals := 88 }) [.ref m0, .int (nI dp)] [(m0, .inr (3, [.ref n0, .ref q0, .int (nI sv), .ref r0, .ref t0, .ref w0, .ref u0, .ref v0, .ref y0, .int tm, .long hs])), (n0, .inl (cI, 148, .inl nw)), (t0, .inl (cI, 10, .inl tg)), (v0, .inl (cI, 10, .inl tt)), (y0, .inl (cI, 10, .inl us))] (rP (some (.int 0)) [(m0, .inr (3, [.ref n0, .ref q0, .int (nI sv), .ref r0, .ref t0, .ref w0, .ref u0, .ref v0, .ref y0, .int (nI (tmF nw tg tt nl)), .long hs])), (n0, .inl (cI, 148, .inl nw)), (t0, .inl (cI, 10, .inl tg)), (v0, .inl (cI, 10, .inl (ttF nw tg tt nl))), (y0, .inl (cI, 10, .inl (usW nw tg (ttF nw tg tt nl) (tmF nw tg tt nl) us nl)))]) := by
  refine ctr_of (lv0 := [(0, .ref m0), (1, .int (nI dp))]) (by decide) (nle rfl) rfl (fun G C E => ?_)
  refine r_iload_n C dX3_against_0 1 rfl ?_
  refine r_if_ge C dX3_against_1 (tgt := 11) (by decide) (fun c_1 => ?_) (fun c_1 => ?_)
  · refine r_aload_n C dX3_against_11 0 rfl ?_
    refine r_callV C (As := []) (rest := []) (wr := [(v0, .inl (cI, 10, .inl tt)), (y0, .inl (cI, 10, .inl us))]) (c_X3_blocked l D cI cR m0 n0 q0 sv r0 t0 w0 u0 v0 y0 tm hs nw tg nl (by first | assumption | omega) (by first | assumption | omega)) k_X3_blocked rfl dX3_against_12 q_557 q_559 q_21 ⟨nle rfl, nle rfl⟩ [0, 1, 2] [3, 4] rfl rfl rfl rfl (by decide) 0 rfl rfl rfl (nle rfl) ⟨nle rfl, nle rfl⟩ (r_fin (st2 := [.int (obF nw tg nl)]) (ws2 := [(v0, .inl (cI, 10, .inl tt)), (y0, .inl (cI, 10, .inl us)), (m0, .inr (3, [.ref n0, .ref q0, .int (nI sv), .ref r0, .ref t0, .ref w0, .ref u0, .ref v0, .ref y0, .int tm, .long hs])), (n0, .inl (cI, 148, .inl nw)), (t0, .inl (cI, 10, .inl tg))]) rfl rfl ?_)
    refine r_if_eq C dX3_against_15 (tgt := 25) (by decide) (fun c_2 => ?_) (fun c_2 => ?_)
    · refine r_aload_n C dX3_against_25 0 rfl ?_
      refine r_callV C (As := []) (rest := []) (wr := []) (c_X3_plans l D cI cR m0 n0 q0 sv r0 t0 w0 u0 v0 y0 tm hs nw tg tt us nl (by first | assumption | omega) (by first | assumption | omega)) k_X3_plans rfl dX3_against_26 q_569 q_571 q_24 ⟨nle rfl, nle rfl⟩ [2, 3, 4, 0, 1] [] rfl rfl rfl rfl (by decide) 0 rfl rfl rfl (nle rfl) ⟨nle rfl, nle rfl⟩ (r_fin (st2 := []) (ws2 := [(m0, .inr (3, [.ref n0, .ref q0, .int (nI sv), .ref r0, .ref t0, .ref w0, .ref u0, .ref v0, .ref y0, .int (nI (tmF nw tg tt nl)), .long hs])), (n0, .inl (cI, 148, .inl nw)), (t0, .inl (cI, 10, .inl tg)), (v0, .inl (cI, 10, .inl (ttF nw tg tt nl))), (y0, .inl (cI, 10, .inl (usW nw tg (ttF nw tg tt nl) (tmF nw tg tt nl) us nl)))]) rfl rfl ?_)
      refine r_iload_n C dX3_against_29 1 rfl ?_
      refine r_aload_n C dX3_against_30 0 rfl ?_
      refine r_get C clX3 dX3_against_31 0 9 rfl (by decide) q_408 rfl ?_
      refine r_icmp_ge C dX3_against_34 (tgt := 41) (by decide) (fun c_3 => ?_) (fun c_3 => ?_)
      · exact absurd c_3 (nI_ge hd2 (by have := tm_le nw tg tt nl; omega))
      · refine r_iconst C dX3_against_37 (v := 0) (by decide) ?_
        refine r_goto C dX3_against_38 (tgt := 42) (by decide) ?_
        exact r_iret C E dX3_against_42 (nle rfl) (nle rfl) ⟨rfl, rfl⟩
    · exact absurd hb c_2
  · exact absurd hd c_1
set_option maxHeartbeats 4000000 in
set_option maxRecDepth 100000 in
/-- X3_dipMinutes, negative -/
theorem c_X3_dipMinutes_neg (l : Launch) (D : va_G) (cI cR : ClassId) (m0 : Nat) (n0 : Nat) (q0 : Nat) (sv : Nat) (r0 : Nat) (t0 : Nat) (w0 : Nat) (u0 : Nat) (v0 : Nat) (y0 : Nat) (tm : Int32) (hs : Int64) (er : Nat → Int32) (dx : Int32) (hd : ¬ 0 ≤ dx) : Ctr l D cI cR yX3_dipMinutes cX3_dipMinutes 3 ((some .int)) ({ frames := 5, cells := 0, slots := 0, locals := 109 }) [.ref m0, .int dx] [(m0, .inr (3, [.ref n0, .ref q0, .int (nI sv), .ref r0, .ref t0, .ref w0, .ref u0, .ref v0, .ref y0, .int tm, .long hs])), (r0, .inl (cI, 4, .inl er))] (rP (some (.int (-2))) [(m0, .inr (3, [.ref n0, .ref q0, .int (nI sv), .ref r0, .ref t0, .ref w0, .ref u0, .ref v0, .ref y0, .int tm, .long hs])), (r0, .inl (cI, 4, .inl (upd er 0 (er 0 + 1))))]) := by
  refine ctr_of (lv0 := [(0, .ref m0), (1, .int dx)]) (by decide) (nle rfl) rfl (fun G C E => ?_)
  refine r_aload_n C dX3_dipMinutes_0 0 rfl ?_
  refine r_iload_n C dX3_dipMinutes_1 1 rfl ?_
  refine r_callV C (As := [.int dx]) (rest := []) (wr := []) (c_X3_against_neg l D cI cR m0 n0 q0 sv r0 t0 w0 u0 v0 y0 tm hs er dx (by first | assumption | omega)) k_X3_against rfl dX3_dipMinutes_2 q_581 q_583 q_26 ⟨nle rfl, nle rfl⟩ [0, 1] [] rfl rfl rfl rfl (by decide) 0 rfl rfl rfl (nle rfl) ⟨nle rfl, nle rfl⟩ (r_fin (st2 := [.int (-2)]) (ws2 := [(m0, .inr (3, [.ref n0, .ref q0, .int (nI sv), .ref r0, .ref t0, .ref w0, .ref u0, .ref v0, .ref y0, .int tm, .long hs])), (r0, .inl (cI, 4, .inl (upd er 0 (er 0 + 1))))]) rfl rfl ?_)
  refine r_istore_n C dX3_dipMinutes_5 (lv2 := [(2, .int (-2)), (0, .ref m0), (1, .int dx)]) (by decide) rfl ?_
  refine r_iload_n C dX3_dipMinutes_6 0 rfl ?_
  refine r_if_ne C dX3_dipMinutes_7 (tgt := 18) (by decide) (fun c_1 => ?_) (fun c_1 => ?_)
  · refine r_iload_n C dX3_dipMinutes_18 0 rfl ?_
    exact r_iret C E dX3_dipMinutes_19 (nle rfl) (nle rfl) ⟨rfl, rfl⟩
  · exact absurd c_1 (by decide)
set_option maxHeartbeats 4000000 in
set_option maxRecDepth 100000 in
/-- X3_dipMinutes, no plan -/
theorem c_X3_dipMinutes_no (l : Launch) (D : va_G) (cI cR : ClassId) (m0 : Nat) (n0 : Nat) (q0 : Nat) (sv : Nat) (r0 : Nat) (t0 : Nat) (w0 : Nat) (u0 : Nat) (v0 : Nat) (y0 : Nat) (tm : Int32) (hs : Int64) (nw : Nat → Int32) (tg : Nat → Int32) (nl : Nat) (er : Nat → Int32) (dx : Int32) (e0 : nw 0 = nI nl) (hnl : nl ≤ 10) (hb : ¬ obF nw tg nl = 0) (hd : 0 ≤ dx) : Ctr l D cI cR yX3_dipMinutes cX3_dipMinutes 3 ((some .int)) ({ frames := 5, cells := 0, slots := 0, locals := 109 }) [.ref m0, .int dx] [(m0, .inr (3, [.ref n0, .ref q0, .int (nI sv), .ref r0, .ref t0, .ref w0, .ref u0, .ref v0, .ref y0, .int tm, .long hs])), (n0, .inl (cI, 148, .inl nw)), (t0, .inl (cI, 10, .inl tg)), (r0, .inl (cI, 4, .inl er))] (rP (some (.int (-3))) [(m0, .inr (3, [.ref n0, .ref q0, .int (nI sv), .ref r0, .ref t0, .ref w0, .ref u0, .ref v0, .ref y0, .int tm, .long hs])), (n0, .inl (cI, 148, .inl nw)), (t0, .inl (cI, 10, .inl tg)), (r0, .inl (cI, 4, .inl (upd er 1 (er 1 + 1))))]) := by
  refine ctr_of (lv0 := [(0, .ref m0), (1, .int dx)]) (by decide) (nle rfl) rfl (fun G C E => ?_)
  refine r_aload_n C dX3_dipMinutes_0 0 rfl ?_
  refine r_iload_n C dX3_dipMinutes_1 1 rfl ?_
  refine r_callV C (As := [.int dx]) (rest := []) (wr := []) (c_X3_against_no l D cI cR m0 n0 q0 sv r0 t0 w0 u0 v0 y0 tm hs nw tg nl er dx (by first | assumption | omega) (by first | assumption | omega) (by first | assumption | omega) (by first | assumption | omega)) k_X3_against rfl dX3_dipMinutes_2 q_581 q_583 q_26 ⟨nle rfl, nle rfl⟩ [0, 1, 2, 3] [] rfl rfl rfl rfl (by decide) 0 rfl rfl rfl (nle rfl) ⟨nle rfl, nle rfl⟩ (r_fin (st2 := [.int (-3)]) (ws2 := [(m0, .inr (3, [.ref n0, .ref q0, .int (nI sv), .ref r0, .ref t0, .ref w0, .ref u0, .ref v0, .ref y0, .int tm, .long hs])), (n0, .inl (cI, 148, .inl nw)), (t0, .inl (cI, 10, .inl tg)), (r0, .inl (cI, 4, .inl (upd er 1 (er 1 + 1))))]) rfl rfl ?_)
  refine r_istore_n C dX3_dipMinutes_5 (lv2 := [(2, .int (-3)), (0, .ref m0), (1, .int dx)]) (by decide) rfl ?_
  refine r_iload_n C dX3_dipMinutes_6 0 rfl ?_
  refine r_if_ne C dX3_dipMinutes_7 (tgt := 18) (by decide) (fun c_1 => ?_) (fun c_1 => ?_)
  · refine r_iload_n C dX3_dipMinutes_18 0 rfl ?_
    exact r_iret C E dX3_dipMinutes_19 (nle rfl) (nle rfl) ⟨rfl, rfl⟩
  · exact absurd c_1 (by decide)
set_option maxHeartbeats 4000000 in
set_option maxRecDepth 100000 in
/-- X3_dipMinutes, no such dip -/
theorem c_X3_dipMinutes_far (l : Launch) (D : va_G) (cI cR : ClassId) (m0 : Nat) (n0 : Nat) (q0 : Nat) (sv : Nat) (r0 : Nat) (t0 : Nat) (w0 : Nat) (u0 : Nat) (v0 : Nat) (y0 : Nat) (tm : Int32) (hs : Int64) (nw : Nat → Int32) (tg : Nat → Int32) (tt : Nat → Int32) (us : Nat → Int32) (nl : Nat) (dx : Int32) (e0 : nw 0 = nI nl) (hnl : nl ≤ 10) (hb : obF nw tg nl = 0) (hd : 0 ≤ dx) (hd2 : nI (tmF nw tg tt nl) ≤ dx) : Ctr l D cI cR yX3_dipMinutes cX3_dipMinutes 3 ((some .int)) ({ frames := 5, cells := 0, slots := 0, locals := 109 }) [.ref m0, .int dx] [(m0, .inr (3, [.ref n0, .ref q0, .int (nI sv), .ref r0, .ref t0, .ref w0, .ref u0, .ref v0, .ref y0, .int tm, .long hs])), (n0, .inl (cI, 148, .inl nw)), (t0, .inl (cI, 10, .inl tg)), (v0, .inl (cI, 10, .inl tt)), (y0, .inl (cI, 10, .inl us))] (rP (some (.int (-1))) [(m0, .inr (3, [.ref n0, .ref q0, .int (nI sv), .ref r0, .ref t0, .ref w0, .ref u0, .ref v0, .ref y0, .int (nI (tmF nw tg tt nl)), .long hs])), (n0, .inl (cI, 148, .inl nw)), (t0, .inl (cI, 10, .inl tg)), (v0, .inl (cI, 10, .inl (ttF nw tg tt nl))), (y0, .inl (cI, 10, .inl (usW nw tg (ttF nw tg tt nl) (tmF nw tg tt nl) us nl)))]) := by
  refine ctr_of (lv0 := [(0, .ref m0), (1, .int dx)]) (by decide) (nle rfl) rfl (fun G C E => ?_)
  refine r_aload_n C dX3_dipMinutes_0 0 rfl ?_
  refine r_iload_n C dX3_dipMinutes_1 1 rfl ?_
  refine r_callV C (As := [.int dx]) (rest := []) (wr := []) (c_X3_against_far l D cI cR m0 n0 q0 sv r0 t0 w0 u0 v0 y0 tm hs nw tg tt us nl dx (by first | assumption | omega) (by first | assumption | omega) (by first | assumption | omega) (by first | assumption | omega) (by first | assumption | omega)) k_X3_against rfl dX3_dipMinutes_2 q_581 q_583 q_26 ⟨nle rfl, nle rfl⟩ [0, 1, 2, 3, 4] [] rfl rfl rfl rfl (by decide) 0 rfl rfl rfl (nle rfl) ⟨nle rfl, nle rfl⟩ (r_fin (st2 := [.int (-1)]) (ws2 := [(m0, .inr (3, [.ref n0, .ref q0, .int (nI sv), .ref r0, .ref t0, .ref w0, .ref u0, .ref v0, .ref y0, .int (nI (tmF nw tg tt nl)), .long hs])), (n0, .inl (cI, 148, .inl nw)), (t0, .inl (cI, 10, .inl tg)), (v0, .inl (cI, 10, .inl (ttF nw tg tt nl))), (y0, .inl (cI, 10, .inl (usW nw tg (ttF nw tg tt nl) (tmF nw tg tt nl) us nl)))]) rfl rfl ?_)
  refine r_istore_n C dX3_dipMinutes_5 (lv2 := [(2, .int (-1)), (0, .ref m0), (1, .int dx)]) (by decide) rfl ?_
  refine r_iload_n C dX3_dipMinutes_6 0 rfl ?_
  refine r_if_ne C dX3_dipMinutes_7 (tgt := 18) (by decide) (fun c_1 => ?_) (fun c_1 => ?_)
  · refine r_iload_n C dX3_dipMinutes_18 0 rfl ?_
    exact r_iret C E dX3_dipMinutes_19 (nle rfl) (nle rfl) ⟨rfl, rfl⟩
  · exact absurd c_1 (by decide)
set_option maxHeartbeats 4000000 in
set_option maxRecDepth 100000 in
/-- X3_dipMinutes, of a dip -/
theorem c_X3_dipMinutes_ok (l : Launch) (D : va_G) (cI cR : ClassId) (m0 : Nat) (n0 : Nat) (q0 : Nat) (sv : Nat) (r0 : Nat) (t0 : Nat) (w0 : Nat) (u0 : Nat) (v0 : Nat) (y0 : Nat) (tm : Int32) (hs : Int64) (nw : Nat → Int32) (tg : Nat → Int32) (tt : Nat → Int32) (us : Nat → Int32) (nl : Nat) (dp : Nat) (e0 : nw 0 = nI nl) (hnl : nl ≤ 10) (hb : obF nw tg nl = 0) (hd : 0 ≤ nI dp) (hd2 : dp < tmF nw tg tt nl) : Ctr l D cI cR yX3_dipMinutes cX3_dipMinutes 3 ((some .int)) ({ frames := 5, cells := 0, slots := 0, locals := 109 }) [.ref m0, .int (nI dp)] [(m0, .inr (3, [.ref n0, .ref q0, .int (nI sv), .ref r0, .ref t0, .ref w0, .ref u0, .ref v0, .ref y0, .int tm, .long hs])), (n0, .inl (cI, 148, .inl nw)), (t0, .inl (cI, 10, .inl tg)), (v0, .inl (cI, 10, .inl tt)), (y0, .inl (cI, 10, .inl us))] (rP (some (.int ((ttF nw tg tt nl) dp - tb2 (ttF nw tg tt nl) dp))) [(m0, .inr (3, [.ref n0, .ref q0, .int (nI sv), .ref r0, .ref t0, .ref w0, .ref u0, .ref v0, .ref y0, .int (nI (tmF nw tg tt nl)), .long hs])), (n0, .inl (cI, 148, .inl nw)), (t0, .inl (cI, 10, .inl tg)), (v0, .inl (cI, 10, .inl (ttF nw tg tt nl))), (y0, .inl (cI, 10, .inl (usW nw tg (ttF nw tg tt nl) (tmF nw tg tt nl) us nl)))]) := by
  refine ctr_of (lv0 := [(0, .ref m0), (1, .int (nI dp))]) (by decide) (nle rfl) rfl (fun G C E => ?_)
  refine r_aload_n C dX3_dipMinutes_0 0 rfl ?_
  refine r_iload_n C dX3_dipMinutes_1 1 rfl ?_
  refine r_callV C (As := [.int (nI dp)]) (rest := []) (wr := []) (c_X3_against_ok l D cI cR m0 n0 q0 sv r0 t0 w0 u0 v0 y0 tm hs nw tg tt us nl dp (by first | assumption | omega) (by first | assumption | omega) (by first | assumption | omega) (by first | assumption | omega) (by first | assumption | omega)) k_X3_against rfl dX3_dipMinutes_2 q_581 q_583 q_26 ⟨nle rfl, nle rfl⟩ [0, 1, 2, 3, 4] [] rfl rfl rfl rfl (by decide) 0 rfl rfl rfl (nle rfl) ⟨nle rfl, nle rfl⟩ (r_fin (st2 := [.int 0]) (ws2 := [(m0, .inr (3, [.ref n0, .ref q0, .int (nI sv), .ref r0, .ref t0, .ref w0, .ref u0, .ref v0, .ref y0, .int (nI (tmF nw tg tt nl)), .long hs])), (n0, .inl (cI, 148, .inl nw)), (t0, .inl (cI, 10, .inl tg)), (v0, .inl (cI, 10, .inl (ttF nw tg tt nl))), (y0, .inl (cI, 10, .inl (usW nw tg (ttF nw tg tt nl) (tmF nw tg tt nl) us nl)))]) rfl rfl ?_)
  refine r_istore_n C dX3_dipMinutes_5 (lv2 := [(2, .int 0), (0, .ref m0), (1, .int (nI dp))]) (by decide) rfl ?_
  refine r_iload_n C dX3_dipMinutes_6 0 rfl ?_
  refine r_if_ne C dX3_dipMinutes_7 (tgt := 18) (by decide) (fun c_1 => ?_) (fun c_1 => ?_)
  · exact absurd c_1 (by decide)
  · have hdl := tm_le nw tg tt nl
    refine r_aload_n C dX3_dipMinutes_10 1 rfl ?_
    refine r_iload_n C dX3_dipMinutes_11 2 rfl ?_
    refine r_callV C (As := [.int (nI dp)]) (rest := []) (wr := [(n0, .inl (cI, 148, .inl nw)), (t0, .inl (cI, 10, .inl tg)), (y0, .inl (cI, 10, .inl (usW nw tg (ttF nw tg tt nl) (tmF nw tg tt nl) us nl)))]) (c_X3_minutesOf l D cI cR m0 n0 q0 sv r0 t0 w0 u0 v0 y0 (nI (tmF nw tg tt nl)) hs (ttF nw tg tt nl) dp (by first | assumption | omega)) k_X3_minutesOf rfl dX3_dipMinutes_12 q_585 q_587 q_27 ⟨nle rfl, nle rfl⟩ [0, 3] [1, 2, 4] rfl rfl rfl rfl (by decide) 0 rfl rfl rfl (nle rfl) ⟨nle rfl, nle rfl⟩ (r_fin (st2 := [.int ((ttF nw tg tt nl) dp - tb2 (ttF nw tg tt nl) dp)]) (ws2 := [(n0, .inl (cI, 148, .inl nw)), (t0, .inl (cI, 10, .inl tg)), (y0, .inl (cI, 10, .inl (usW nw tg (ttF nw tg tt nl) (tmF nw tg tt nl) us nl))), (m0, .inr (3, [.ref n0, .ref q0, .int (nI sv), .ref r0, .ref t0, .ref w0, .ref u0, .ref v0, .ref y0, .int (nI (tmF nw tg tt nl)), .long hs])), (v0, .inl (cI, 10, .inl (ttF nw tg tt nl)))]) rfl rfl ?_)
    refine r_goto C dX3_dipMinutes_15 (tgt := 19) (by decide) ?_
    refine r_ws [3, 0, 1, 4, 2] (ws2 := [(m0, .inr (3, [.ref n0, .ref q0, .int (nI sv), .ref r0, .ref t0, .ref w0, .ref u0, .ref v0, .ref y0, .int (nI (tmF nw tg tt nl)), .long hs])), (n0, .inl (cI, 148, .inl nw)), (t0, .inl (cI, 10, .inl tg)), (v0, .inl (cI, 10, .inl (ttF nw tg tt nl))), (y0, .inl (cI, 10, .inl (usW nw tg (ttF nw tg tt nl) (tmF nw tg tt nl) us nl)))]) rfl rfl ?_
    exact r_iret C E dX3_dipMinutes_19 (nle rfl) (nle rfl) ⟨rfl, rfl⟩
set_option maxHeartbeats 4000000 in
set_option maxRecDepth 100000 in
/-- X3_dipVarnish, negative -/
theorem c_X3_dipVarnish_neg (l : Launch) (D : va_G) (cI cR : ClassId) (m0 : Nat) (n0 : Nat) (q0 : Nat) (sv : Nat) (r0 : Nat) (t0 : Nat) (w0 : Nat) (u0 : Nat) (v0 : Nat) (y0 : Nat) (tm : Int32) (hs : Int64) (er : Nat → Int32) (dx : Int32) (hd : ¬ 0 ≤ dx) : Ctr l D cI cR yX3_dipVarnish cX3_dipVarnish 3 ((some .int)) ({ frames := 5, cells := 0, slots := 0, locals := 109 }) [.ref m0, .int dx] [(m0, .inr (3, [.ref n0, .ref q0, .int (nI sv), .ref r0, .ref t0, .ref w0, .ref u0, .ref v0, .ref y0, .int tm, .long hs])), (r0, .inl (cI, 4, .inl er))] (rP (some (.int (-2))) [(m0, .inr (3, [.ref n0, .ref q0, .int (nI sv), .ref r0, .ref t0, .ref w0, .ref u0, .ref v0, .ref y0, .int tm, .long hs])), (r0, .inl (cI, 4, .inl (upd er 0 (er 0 + 1))))]) := by
  refine ctr_of (lv0 := [(0, .ref m0), (1, .int dx)]) (by decide) (nle rfl) rfl (fun G C E => ?_)
  refine r_aload_n C dX3_dipVarnish_0 0 rfl ?_
  refine r_iload_n C dX3_dipVarnish_1 1 rfl ?_
  refine r_callV C (As := [.int dx]) (rest := []) (wr := []) (c_X3_against_neg l D cI cR m0 n0 q0 sv r0 t0 w0 u0 v0 y0 tm hs er dx (by first | assumption | omega)) k_X3_against rfl dX3_dipVarnish_2 q_581 q_583 q_26 ⟨nle rfl, nle rfl⟩ [0, 1] [] rfl rfl rfl rfl (by decide) 0 rfl rfl rfl (nle rfl) ⟨nle rfl, nle rfl⟩ (r_fin (st2 := [.int (-2)]) (ws2 := [(m0, .inr (3, [.ref n0, .ref q0, .int (nI sv), .ref r0, .ref t0, .ref w0, .ref u0, .ref v0, .ref y0, .int tm, .long hs])), (r0, .inl (cI, 4, .inl (upd er 0 (er 0 + 1))))]) rfl rfl ?_)
  refine r_istore_n C dX3_dipVarnish_5 (lv2 := [(2, .int (-2)), (0, .ref m0), (1, .int dx)]) (by decide) rfl ?_
  refine r_iload_n C dX3_dipVarnish_6 0 rfl ?_
  refine r_if_ne C dX3_dipVarnish_7 (tgt := 18) (by decide) (fun c_1 => ?_) (fun c_1 => ?_)
  · refine r_iload_n C dX3_dipVarnish_18 0 rfl ?_
    exact r_iret C E dX3_dipVarnish_19 (nle rfl) (nle rfl) ⟨rfl, rfl⟩
  · exact absurd c_1 (by decide)
set_option maxHeartbeats 4000000 in
set_option maxRecDepth 100000 in
/-- X3_dipVarnish, no plan -/
theorem c_X3_dipVarnish_no (l : Launch) (D : va_G) (cI cR : ClassId) (m0 : Nat) (n0 : Nat) (q0 : Nat) (sv : Nat) (r0 : Nat) (t0 : Nat) (w0 : Nat) (u0 : Nat) (v0 : Nat) (y0 : Nat) (tm : Int32) (hs : Int64) (nw : Nat → Int32) (tg : Nat → Int32) (nl : Nat) (er : Nat → Int32) (dx : Int32) (e0 : nw 0 = nI nl) (hnl : nl ≤ 10) (hb : ¬ obF nw tg nl = 0) (hd : 0 ≤ dx) : Ctr l D cI cR yX3_dipVarnish cX3_dipVarnish 3 ((some .int)) ({ frames := 5, cells := 0, slots := 0, locals := 109 }) [.ref m0, .int dx] [(m0, .inr (3, [.ref n0, .ref q0, .int (nI sv), .ref r0, .ref t0, .ref w0, .ref u0, .ref v0, .ref y0, .int tm, .long hs])), (n0, .inl (cI, 148, .inl nw)), (t0, .inl (cI, 10, .inl tg)), (r0, .inl (cI, 4, .inl er))] (rP (some (.int (-3))) [(m0, .inr (3, [.ref n0, .ref q0, .int (nI sv), .ref r0, .ref t0, .ref w0, .ref u0, .ref v0, .ref y0, .int tm, .long hs])), (n0, .inl (cI, 148, .inl nw)), (t0, .inl (cI, 10, .inl tg)), (r0, .inl (cI, 4, .inl (upd er 1 (er 1 + 1))))]) := by
  refine ctr_of (lv0 := [(0, .ref m0), (1, .int dx)]) (by decide) (nle rfl) rfl (fun G C E => ?_)
  refine r_aload_n C dX3_dipVarnish_0 0 rfl ?_
  refine r_iload_n C dX3_dipVarnish_1 1 rfl ?_
  refine r_callV C (As := [.int dx]) (rest := []) (wr := []) (c_X3_against_no l D cI cR m0 n0 q0 sv r0 t0 w0 u0 v0 y0 tm hs nw tg nl er dx (by first | assumption | omega) (by first | assumption | omega) (by first | assumption | omega) (by first | assumption | omega)) k_X3_against rfl dX3_dipVarnish_2 q_581 q_583 q_26 ⟨nle rfl, nle rfl⟩ [0, 1, 2, 3] [] rfl rfl rfl rfl (by decide) 0 rfl rfl rfl (nle rfl) ⟨nle rfl, nle rfl⟩ (r_fin (st2 := [.int (-3)]) (ws2 := [(m0, .inr (3, [.ref n0, .ref q0, .int (nI sv), .ref r0, .ref t0, .ref w0, .ref u0, .ref v0, .ref y0, .int tm, .long hs])), (n0, .inl (cI, 148, .inl nw)), (t0, .inl (cI, 10, .inl tg)), (r0, .inl (cI, 4, .inl (upd er 1 (er 1 + 1))))]) rfl rfl ?_)
  refine r_istore_n C dX3_dipVarnish_5 (lv2 := [(2, .int (-3)), (0, .ref m0), (1, .int dx)]) (by decide) rfl ?_
  refine r_iload_n C dX3_dipVarnish_6 0 rfl ?_
  refine r_if_ne C dX3_dipVarnish_7 (tgt := 18) (by decide) (fun c_1 => ?_) (fun c_1 => ?_)
  · refine r_iload_n C dX3_dipVarnish_18 0 rfl ?_
    exact r_iret C E dX3_dipVarnish_19 (nle rfl) (nle rfl) ⟨rfl, rfl⟩
  · exact absurd c_1 (by decide)
set_option maxHeartbeats 4000000 in
set_option maxRecDepth 100000 in
/-- X3_dipVarnish, no such dip -/
theorem c_X3_dipVarnish_far (l : Launch) (D : va_G) (cI cR : ClassId) (m0 : Nat) (n0 : Nat) (q0 : Nat) (sv : Nat) (r0 : Nat) (t0 : Nat) (w0 : Nat) (u0 : Nat) (v0 : Nat) (y0 : Nat) (tm : Int32) (hs : Int64) (nw : Nat → Int32) (tg : Nat → Int32) (tt : Nat → Int32) (us : Nat → Int32) (nl : Nat) (dx : Int32) (e0 : nw 0 = nI nl) (hnl : nl ≤ 10) (hb : obF nw tg nl = 0) (hd : 0 ≤ dx) (hd2 : nI (tmF nw tg tt nl) ≤ dx) : Ctr l D cI cR yX3_dipVarnish cX3_dipVarnish 3 ((some .int)) ({ frames := 5, cells := 0, slots := 0, locals := 109 }) [.ref m0, .int dx] [(m0, .inr (3, [.ref n0, .ref q0, .int (nI sv), .ref r0, .ref t0, .ref w0, .ref u0, .ref v0, .ref y0, .int tm, .long hs])), (n0, .inl (cI, 148, .inl nw)), (t0, .inl (cI, 10, .inl tg)), (v0, .inl (cI, 10, .inl tt)), (y0, .inl (cI, 10, .inl us))] (rP (some (.int (-1))) [(m0, .inr (3, [.ref n0, .ref q0, .int (nI sv), .ref r0, .ref t0, .ref w0, .ref u0, .ref v0, .ref y0, .int (nI (tmF nw tg tt nl)), .long hs])), (n0, .inl (cI, 148, .inl nw)), (t0, .inl (cI, 10, .inl tg)), (v0, .inl (cI, 10, .inl (ttF nw tg tt nl))), (y0, .inl (cI, 10, .inl (usW nw tg (ttF nw tg tt nl) (tmF nw tg tt nl) us nl)))]) := by
  refine ctr_of (lv0 := [(0, .ref m0), (1, .int dx)]) (by decide) (nle rfl) rfl (fun G C E => ?_)
  refine r_aload_n C dX3_dipVarnish_0 0 rfl ?_
  refine r_iload_n C dX3_dipVarnish_1 1 rfl ?_
  refine r_callV C (As := [.int dx]) (rest := []) (wr := []) (c_X3_against_far l D cI cR m0 n0 q0 sv r0 t0 w0 u0 v0 y0 tm hs nw tg tt us nl dx (by first | assumption | omega) (by first | assumption | omega) (by first | assumption | omega) (by first | assumption | omega) (by first | assumption | omega)) k_X3_against rfl dX3_dipVarnish_2 q_581 q_583 q_26 ⟨nle rfl, nle rfl⟩ [0, 1, 2, 3, 4] [] rfl rfl rfl rfl (by decide) 0 rfl rfl rfl (nle rfl) ⟨nle rfl, nle rfl⟩ (r_fin (st2 := [.int (-1)]) (ws2 := [(m0, .inr (3, [.ref n0, .ref q0, .int (nI sv), .ref r0, .ref t0, .ref w0, .ref u0, .ref v0, .ref y0, .int (nI (tmF nw tg tt nl)), .long hs])), (n0, .inl (cI, 148, .inl nw)), (t0, .inl (cI, 10, .inl tg)), (v0, .inl (cI, 10, .inl (ttF nw tg tt nl))), (y0, .inl (cI, 10, .inl (usW nw tg (ttF nw tg tt nl) (tmF nw tg tt nl) us nl)))]) rfl rfl ?_)
  refine r_istore_n C dX3_dipVarnish_5 (lv2 := [(2, .int (-1)), (0, .ref m0), (1, .int dx)]) (by decide) rfl ?_
  refine r_iload_n C dX3_dipVarnish_6 0 rfl ?_
  refine r_if_ne C dX3_dipVarnish_7 (tgt := 18) (by decide) (fun c_1 => ?_) (fun c_1 => ?_)
  · refine r_iload_n C dX3_dipVarnish_18 0 rfl ?_
    exact r_iret C E dX3_dipVarnish_19 (nle rfl) (nle rfl) ⟨rfl, rfl⟩
  · exact absurd c_1 (by decide)
set_option maxHeartbeats 4000000 in
set_option maxRecDepth 100000 in
/-- X3_dipVarnish, of a dip -/
theorem c_X3_dipVarnish_ok (l : Launch) (D : va_G) (cI cR : ClassId) (m0 : Nat) (n0 : Nat) (q0 : Nat) (sv : Nat) (r0 : Nat) (t0 : Nat) (w0 : Nat) (u0 : Nat) (v0 : Nat) (y0 : Nat) (tm : Int32) (hs : Int64) (nw : Nat → Int32) (tg : Nat → Int32) (tt : Nat → Int32) (us : Nat → Int32) (nl : Nat) (dp : Nat) (e0 : nw 0 = nI nl) (hnl : nl ≤ 10) (hb : obF nw tg nl = 0) (hd : 0 ≤ nI dp) (hd2 : dp < tmF nw tg tt nl) : Ctr l D cI cR yX3_dipVarnish cX3_dipVarnish 3 ((some .int)) ({ frames := 5, cells := 0, slots := 0, locals := 109 }) [.ref m0, .int (nI dp)] [(m0, .inr (3, [.ref n0, .ref q0, .int (nI sv), .ref r0, .ref t0, .ref w0, .ref u0, .ref v0, .ref y0, .int tm, .long hs])), (n0, .inl (cI, 148, .inl nw)), (t0, .inl (cI, 10, .inl tg)), (v0, .inl (cI, 10, .inl tt)), (y0, .inl (cI, 10, .inl us))] (rP (some (.int (dbF (usW nw tg (ttF nw tg tt nl) (tmF nw tg tt nl) us nl) (tb2 (ttF nw tg tt nl) dp) nl))) [(m0, .inr (3, [.ref n0, .ref q0, .int (nI sv), .ref r0, .ref t0, .ref w0, .ref u0, .ref v0, .ref y0, .int (nI (tmF nw tg tt nl)), .long hs])), (n0, .inl (cI, 148, .inl nw)), (t0, .inl (cI, 10, .inl tg)), (v0, .inl (cI, 10, .inl (ttF nw tg tt nl))), (y0, .inl (cI, 10, .inl (usW nw tg (ttF nw tg tt nl) (tmF nw tg tt nl) us nl)))]) := by
  refine ctr_of (lv0 := [(0, .ref m0), (1, .int (nI dp))]) (by decide) (nle rfl) rfl (fun G C E => ?_)
  refine r_aload_n C dX3_dipVarnish_0 0 rfl ?_
  refine r_iload_n C dX3_dipVarnish_1 1 rfl ?_
  refine r_callV C (As := [.int (nI dp)]) (rest := []) (wr := []) (c_X3_against_ok l D cI cR m0 n0 q0 sv r0 t0 w0 u0 v0 y0 tm hs nw tg tt us nl dp (by first | assumption | omega) (by first | assumption | omega) (by first | assumption | omega) (by first | assumption | omega) (by first | assumption | omega)) k_X3_against rfl dX3_dipVarnish_2 q_581 q_583 q_26 ⟨nle rfl, nle rfl⟩ [0, 1, 2, 3, 4] [] rfl rfl rfl rfl (by decide) 0 rfl rfl rfl (nle rfl) ⟨nle rfl, nle rfl⟩ (r_fin (st2 := [.int 0]) (ws2 := [(m0, .inr (3, [.ref n0, .ref q0, .int (nI sv), .ref r0, .ref t0, .ref w0, .ref u0, .ref v0, .ref y0, .int (nI (tmF nw tg tt nl)), .long hs])), (n0, .inl (cI, 148, .inl nw)), (t0, .inl (cI, 10, .inl tg)), (v0, .inl (cI, 10, .inl (ttF nw tg tt nl))), (y0, .inl (cI, 10, .inl (usW nw tg (ttF nw tg tt nl) (tmF nw tg tt nl) us nl)))]) rfl rfl ?_)
  refine r_istore_n C dX3_dipVarnish_5 (lv2 := [(2, .int 0), (0, .ref m0), (1, .int (nI dp))]) (by decide) rfl ?_
  refine r_iload_n C dX3_dipVarnish_6 0 rfl ?_
  refine r_if_ne C dX3_dipVarnish_7 (tgt := 18) (by decide) (fun c_1 => ?_) (fun c_1 => ?_)
  · exact absurd c_1 (by decide)
  · have hdl := tm_le nw tg tt nl
    refine r_aload_n C dX3_dipVarnish_10 1 rfl ?_
    refine r_iload_n C dX3_dipVarnish_11 2 rfl ?_
    refine r_callV C (As := [.int (nI dp)]) (rest := []) (wr := [(t0, .inl (cI, 10, .inl tg))]) (c_X3_doneBefore l D cI cR m0 n0 q0 sv r0 t0 w0 u0 v0 y0 (nI (tmF nw tg tt nl)) hs nw (ttF nw tg tt nl) (usW nw tg (ttF nw tg tt nl) (tmF nw tg tt nl) us nl) nl dp (by first | assumption | omega) (by first | assumption | omega) (by first | assumption | omega)) k_X3_doneBefore rfl dX3_dipVarnish_12 q_593 q_595 q_28 ⟨nle rfl, nle rfl⟩ [0, 1, 3, 4] [2] rfl rfl rfl rfl (by decide) 0 rfl rfl rfl (nle rfl) ⟨nle rfl, nle rfl⟩ (r_fin (st2 := [.int (dbF (usW nw tg (ttF nw tg tt nl) (tmF nw tg tt nl) us nl) (tb2 (ttF nw tg tt nl) dp) nl)]) (ws2 := [(t0, .inl (cI, 10, .inl tg)), (m0, .inr (3, [.ref n0, .ref q0, .int (nI sv), .ref r0, .ref t0, .ref w0, .ref u0, .ref v0, .ref y0, .int (nI (tmF nw tg tt nl)), .long hs])), (n0, .inl (cI, 148, .inl nw)), (v0, .inl (cI, 10, .inl (ttF nw tg tt nl))), (y0, .inl (cI, 10, .inl (usW nw tg (ttF nw tg tt nl) (tmF nw tg tt nl) us nl)))]) rfl rfl ?_)
    refine r_goto C dX3_dipVarnish_15 (tgt := 19) (by decide) ?_
    refine r_ws [1, 2, 0, 3, 4] (ws2 := [(m0, .inr (3, [.ref n0, .ref q0, .int (nI sv), .ref r0, .ref t0, .ref w0, .ref u0, .ref v0, .ref y0, .int (nI (tmF nw tg tt nl)), .long hs])), (n0, .inl (cI, 148, .inl nw)), (t0, .inl (cI, 10, .inl tg)), (v0, .inl (cI, 10, .inl (ttF nw tg tt nl))), (y0, .inl (cI, 10, .inl (usW nw tg (ttF nw tg tt nl) (tmF nw tg tt nl) us nl)))]) rfl rfl ?_
    exact r_iret C E dX3_dipVarnish_19 (nle rfl) (nle rfl) ⟨rfl, rfl⟩
set_option maxHeartbeats 4000000 in
set_option maxRecDepth 100000 in
/-- errorCount, in range -/
theorem c_X3_errorCount_ok (l : Launch) (D : va_G) (cI cR : ClassId) (m0 : Nat) (n0 : Nat) (q0 : Nat) (sv : Nat) (r0 : Nat) (t0 : Nat) (w0 : Nat) (u0 : Nat) (v0 : Nat) (y0 : Nat) (tm : Int32) (hs : Int64) (er : Nat → Int32) (cx : Int32) (j : Nat) (hv : ¬ wiF cx (-5) (-2) = 0) (hj : -2 - cx = nI j) (hj4 : j < 4) : Ctr l D cI cR yX3_errorCount cX3_errorCount 2 ((some .int)) ({ frames := 1, cells := 0, slots := 0, locals := 22 }) [.ref m0, .int cx] [(m0, .inr (3, [.ref n0, .ref q0, .int (nI sv), .ref r0, .ref t0, .ref w0, .ref u0, .ref v0, .ref y0, .int tm, .long hs])), (r0, .inl (cI, 4, .inl er))] (rP (some (.int (er j))) [(m0, .inr (3, [.ref n0, .ref q0, .int (nI sv), .ref r0, .ref t0, .ref w0, .ref u0, .ref v0, .ref y0, .int tm, .long hs])), (r0, .inl (cI, 4, .inl er))]) := by
  refine ctr_of (lv0 := [(0, .ref m0), (1, .int cx)]) (by decide) (nle rfl) rfl (fun G C E => ?_)
  refine r_iload_n C dX3_errorCount_0 1 rfl ?_
  refine r_bipush C dX3_errorCount_1 (v := (-5)) (by decide) ?_
  refine r_bipush C dX3_errorCount_3 (v := (-2)) (by decide) ?_
  refine r_callS C (As := [.int cx, .int (-5), .int (-2)]) (rest := []) (wr := [(m0, .inr (3, [.ref n0, .ref q0, .int (nI sv), .ref r0, .ref t0, .ref w0, .ref u0, .ref v0, .ref y0, .int tm, .long hs])), (r0, .inl (cI, 4, .inl er))]) (c_X3_within l D cI cR cx (-5) (-2) ) k_X3_within rfl dX3_errorCount_5 q_453 q_454 ⟨nle rfl, nle rfl⟩ [] [0, 1] rfl rfl rfl rfl (by decide) rfl (nle rfl) ⟨nle rfl, nle rfl⟩ (r_fin (st2 := [.int (wiF cx (-5) (-2))]) (ws2 := [(m0, .inr (3, [.ref n0, .ref q0, .int (nI sv), .ref r0, .ref t0, .ref w0, .ref u0, .ref v0, .ref y0, .int tm, .long hs])), (r0, .inl (cI, 4, .inl er))]) rfl rfl ?_)
  refine r_if_eq C dX3_errorCount_8 (tgt := 23) (by decide) (fun c_1 => ?_) (fun c_1 => ?_)
  · exact absurd c_1 hv
  · refine r_aload_n C dX3_errorCount_11 0 rfl ?_
    refine r_get C clX3 dX3_errorCount_12 0 3 rfl (by decide) q_402 rfl ?_
    refine r_bipush C dX3_errorCount_15 (v := (-2)) (by decide) ?_
    refine r_iload_n C dX3_errorCount_17 1 rfl ?_
    refine r_isub C dX3_errorCount_18 ?_
    refine r_top (b := nI j) hj ?_
    refine r_iald C dX3_errorCount_19 1 rfl j rfl (by omega) (by decide) ?_
    refine r_goto C dX3_errorCount_20 (tgt := 29) (by decide) ?_
    exact r_iret C E dX3_errorCount_29 (nle rfl) (nle rfl) ⟨rfl, rfl⟩
set_option maxHeartbeats 4000000 in
set_option maxRecDepth 100000 in
/-- errorCount, out of range -/
theorem c_X3_errorCount_no (l : Launch) (D : va_G) (cI cR : ClassId) (m0 : Nat) (n0 : Nat) (q0 : Nat) (sv : Nat) (r0 : Nat) (t0 : Nat) (w0 : Nat) (u0 : Nat) (v0 : Nat) (y0 : Nat) (tm : Int32) (hs : Int64) (er : Nat → Int32) (cx : Int32) (hv : wiF cx (-5) (-2) = 0) : Ctr l D cI cR yX3_errorCount cX3_errorCount 2 ((some .int)) ({ frames := 1, cells := 0, slots := 0, locals := 22 }) [.ref m0, .int cx] [(m0, .inr (3, [.ref n0, .ref q0, .int (nI sv), .ref r0, .ref t0, .ref w0, .ref u0, .ref v0, .ref y0, .int tm, .long hs])), (r0, .inl (cI, 4, .inl er))] (rP (some (.int (-2))) [(m0, .inr (3, [.ref n0, .ref q0, .int (nI sv), .ref r0, .ref t0, .ref w0, .ref u0, .ref v0, .ref y0, .int tm, .long hs])), (r0, .inl (cI, 4, .inl (upd er 0 (er 0 + 1))))]) := by
  refine ctr_of (lv0 := [(0, .ref m0), (1, .int cx)]) (by decide) (nle rfl) rfl (fun G C E => ?_)
  refine r_iload_n C dX3_errorCount_0 1 rfl ?_
  refine r_bipush C dX3_errorCount_1 (v := (-5)) (by decide) ?_
  refine r_bipush C dX3_errorCount_3 (v := (-2)) (by decide) ?_
  refine r_callS C (As := [.int cx, .int (-5), .int (-2)]) (rest := []) (wr := [(m0, .inr (3, [.ref n0, .ref q0, .int (nI sv), .ref r0, .ref t0, .ref w0, .ref u0, .ref v0, .ref y0, .int tm, .long hs])), (r0, .inl (cI, 4, .inl er))]) (c_X3_within l D cI cR cx (-5) (-2) ) k_X3_within rfl dX3_errorCount_5 q_453 q_454 ⟨nle rfl, nle rfl⟩ [] [0, 1] rfl rfl rfl rfl (by decide) rfl (nle rfl) ⟨nle rfl, nle rfl⟩ (r_fin (st2 := [.int (wiF cx (-5) (-2))]) (ws2 := [(m0, .inr (3, [.ref n0, .ref q0, .int (nI sv), .ref r0, .ref t0, .ref w0, .ref u0, .ref v0, .ref y0, .int tm, .long hs])), (r0, .inl (cI, 4, .inl er))]) rfl rfl ?_)
  refine r_if_eq C dX3_errorCount_8 (tgt := 23) (by decide) (fun c_1 => ?_) (fun c_1 => ?_)
  · refine r_aload_n C dX3_errorCount_23 0 rfl ?_
    refine r_bipush C dX3_errorCount_24 (v := (-2)) (by decide) ?_
    refine r_callV C (As := [.int (-2)]) (rest := []) (wr := []) (c_X3_fails l D cI cR m0 n0 q0 sv r0 t0 w0 u0 v0 y0 tm hs er (-2) 0 (by decide) (by decide)) k_X3_fails rfl dX3_errorCount_26 q_437 q_439 q_14 ⟨nle rfl, nle rfl⟩ [0, 1] [] rfl rfl rfl rfl (by decide) 0 rfl rfl rfl (nle rfl) ⟨nle rfl, nle rfl⟩ (r_fin (st2 := [.int (-2)]) (ws2 := [(m0, .inr (3, [.ref n0, .ref q0, .int (nI sv), .ref r0, .ref t0, .ref w0, .ref u0, .ref v0, .ref y0, .int tm, .long hs])), (r0, .inl (cI, 4, .inl (upd er 0 (er 0 + 1))))]) rfl rfl ?_)
    exact r_iret C E dX3_errorCount_29 (nle rfl) (nle rfl) ⟨rfl, rfl⟩
  · exact absurd hv c_1
set_option maxHeartbeats 4000000 in
set_option maxRecDepth 100000 in
/-- mix(v) -/
theorem c_X3_mix (l : Launch) (D : va_G) (cI cR : ClassId) (m0 : Nat) (n0 : Nat) (q0 : Nat) (sv : Nat) (r0 : Nat) (t0 : Nat) (w0 : Nat) (u0 : Nat) (v0 : Nat) (y0 : Nat) (tm : Int32) (hs : Int64) (vx : Int32)  : Ctr l D cI cR yX3_mix cX3_mix 2 none ({ frames := 0, cells := 0, slots := 0, locals := 0 }) [.ref m0, .int vx] [(m0, .inr (3, [.ref n0, .ref q0, .int (nI sv), .ref r0, .ref t0, .ref w0, .ref u0, .ref v0, .ref y0, .int tm, .long hs]))] (rP none [(m0, .inr (3, [.ref n0, .ref q0, .int (nI sv), .ref r0, .ref t0, .ref w0, .ref u0, .ref v0, .ref y0, .int tm, .long (mxF hs vx)]))]) := by
  refine ctr_of (lv0 := [(0, .ref m0), (1, .int vx)]) (by decide) (nle rfl) rfl (fun G C E => ?_)
  refine r_aload_n C dX3_mix_0 0 rfl ?_
  refine r_ldc2 C dX3_mix_1 (v := 31) q_614 ?_
  refine r_aload_n C dX3_mix_4 0 rfl ?_
  refine r_get C clX3 dX3_mix_5 0 10 rfl (by decide) q_409 rfl ?_
  refine r_lmul C dX3_mix_8 ?_
  refine r_iload_n C dX3_mix_9 1 rfl ?_
  refine r_i2l C dX3_mix_10 ?_
  refine r_ladd C dX3_mix_11 ?_
  refine r_put C clX3 dX3_mix_12 0 10 rfl (by decide) q_409 rfl rfl rfl (nle rfl) (ws2 := [(m0, .inr (3, [.ref n0, .ref q0, .int (nI sv), .ref r0, .ref t0, .ref w0, .ref u0, .ref v0, .ref y0, .int tm, .long (((31 : Int64) * hs) + vx.toInt64)]))]) rfl ?_
  exact r_vret C E dX3_mix_15 (nle rfl) (nle rfl) ⟨rfl, rfl⟩
set_option maxHeartbeats 4000000 in
set_option maxRecDepth 100000 in
/-- mixPrints() -/
theorem c_X3_mixPrints (l : Launch) (D : va_G) (cI cR : ClassId) (m0 : Nat) (n0 : Nat) (q0 : Nat) (sv : Nat) (r0 : Nat) (t0 : Nat) (w0 : Nat) (u0 : Nat) (v0 : Nat) (y0 : Nat) (tm : Int32) (hs : Int64) (nw : Nat → Int32) (nl : Nat) (pr : Nat) (e0 : nw 0 = nI nl) (e4 : nw 4 = nI pr) (hnl : nl ≤ 10) (hpr : pr ≤ 12) : Ctr l D cI cR yX3_mixPrints cX3_mixPrints 3 none ({ frames := 1, cells := 0, slots := 0, locals := 22 }) [.ref m0] [(m0, .inr (3, [.ref n0, .ref q0, .int (nI sv), .ref r0, .ref t0, .ref w0, .ref u0, .ref v0, .ref y0, .int tm, .long hs])), (n0, .inl (cI, 148, .inl nw))] (rP none [(m0, .inr (3, [.ref n0, .ref q0, .int (nI sv), .ref r0, .ref t0, .ref w0, .ref u0, .ref v0, .ref y0, .int tm, .long (npF (mxF hs (nI pr)) nw nl pr)])), (n0, .inl (cI, 148, .inl nw))]) := by
  refine ctr_of (lv0 := [(0, .ref m0)]) (by decide) (nle rfl) rfl (fun G C E => ?_)
  refine r_aload_n C dX3_mixPrints_0 0 rfl ?_
  refine r_aload_n C dX3_mixPrints_1 0 rfl ?_
  refine r_get C clX3 dX3_mixPrints_2 0 0 rfl (by decide) q_399 rfl ?_
  refine r_iconst C dX3_mixPrints_5 (v := 4) (by decide) ?_
  refine r_iald C dX3_mixPrints_6 1 rfl 4 rfl (by decide) (by decide) ?_
  refine r_top (b := nI pr) e4 ?_
  refine r_callV C (As := [.int (nI pr)]) (rest := []) (wr := [(n0, .inl (cI, 148, .inl nw))]) (c_X3_mix l D cI cR m0 n0 q0 sv r0 t0 w0 u0 v0 y0 tm hs (nI pr) ) k_X3_mix rfl dX3_mixPrints_7 q_610 q_612 q_29 ⟨nle rfl, nle rfl⟩ [0] [1] rfl rfl rfl rfl (by decide) 0 rfl rfl rfl (nle rfl) ⟨nle rfl, nle rfl⟩ (r_fin (st2 := []) (ws2 := [(n0, .inl (cI, 148, .inl nw)), (m0, .inr (3, [.ref n0, .ref q0, .int (nI sv), .ref r0, .ref t0, .ref w0, .ref u0, .ref v0, .ref y0, .int tm, .long (mxF hs (nI pr))]))]) rfl rfl ?_)
  refine r_iconst C dX3_mixPrints_10 (v := 0) (by decide) ?_
  refine r_istore_n C dX3_mixPrints_11 (lv2 := [(1, .int 0), (0, .ref m0)]) (by decide) rfl ?_
  have L_12 : ∀ (z i : Nat), i ≤ pr → pr < i + z → ∀ (hh : Int64), hh = npF (mxF hs (nI pr)) nw nl i → Wr G 0 0 12 [(1, .int (nI i)), (0, .ref m0)] [] [(n0, .inl (cI, 148, .inl nw)), (m0, .inr (3, [.ref n0, .ref q0, .int (nI sv), .ref r0, .ref t0, .ref w0, .ref u0, .ref v0, .ref y0, .int tm, .long hh]))] := by
    intro z
    induction z with
    | zero => intro i h1 h2; exact absurd h2 (by omega)
    | succ z ih_12 =>
      intro i hi_12 hz_12 hh e_hh
      refine r_iload_n C dX3_mixPrints_12 0 rfl ?_
      refine r_aload_n C dX3_mixPrints_13 1 rfl ?_
      refine r_get C clX3 dX3_mixPrints_14 1 0 rfl (by decide) q_399 rfl ?_
      refine r_iconst C dX3_mixPrints_17 (v := 4) (by decide) ?_
      refine r_iald C dX3_mixPrints_18 0 rfl 4 rfl (by decide) (by decide) ?_
      refine r_top (b := nI pr) e4 ?_
      refine r_icmp_ge C dX3_mixPrints_19 (tgt := 69) (by decide) (fun c_1 => ?_) (fun c_1 => ?_)
      · have n_2 := (nI_leI (a := pr) (b := i) (by omega) (by omega)).mp c_1
        have ex_12 : pr = i := by omega
        subst ex_12
        subst e_hh
        refine r_ws [1, 0] (ws2 := [(m0, .inr (3, [.ref n0, .ref q0, .int (nI sv), .ref r0, .ref t0, .ref w0, .ref u0, .ref v0, .ref y0, .int tm, .long (npF (mxF hs (nI pr)) nw nl pr)])), (n0, .inl (cI, 148, .inl nw))]) rfl rfl ?_
        exact r_vret C E dX3_mixPrints_69 (nle rfl) (nle rfl) ⟨rfl, rfl⟩
      · have n_2 := mt (nI_leI (a := pr) (b := i) (by omega) (by omega)).mpr c_1
        refine r_aload_n C dX3_mixPrints_22 1 rfl ?_
        refine r_aload_n C dX3_mixPrints_23 1 rfl ?_
        refine r_get C clX3 dX3_mixPrints_24 1 0 rfl (by decide) q_399 rfl ?_
        refine r_bipush C dX3_mixPrints_27 (v := 16) (by decide) ?_
        refine r_iload_n C dX3_mixPrints_29 0 rfl ?_
        refine r_iadd C dX3_mixPrints_30 ?_
        refine r_top (b := nI (16 + i)) (nA rfl rfl) ?_
        refine r_iald C dX3_mixPrints_31 0 rfl (16 + i) rfl (by omega) (by decide) ?_
        refine r_callV C (As := [.int (nw (16 + i))]) (rest := []) (wr := [(n0, .inl (cI, 148, .inl nw))]) (c_X3_mix l D cI cR m0 n0 q0 sv r0 t0 w0 u0 v0 y0 tm hh (nw (16 + i)) ) k_X3_mix rfl dX3_mixPrints_32 q_610 q_612 q_29 ⟨nle rfl, nle rfl⟩ [1] [0] rfl rfl rfl rfl (by decide) 0 rfl rfl rfl (nle rfl) ⟨nle rfl, nle rfl⟩ (r_fin (st2 := []) (ws2 := [(n0, .inl (cI, 148, .inl nw)), (m0, .inr (3, [.ref n0, .ref q0, .int (nI sv), .ref r0, .ref t0, .ref w0, .ref u0, .ref v0, .ref y0, .int tm, .long (mxF hh (nw (16 + i)))]))]) rfl rfl ?_)
        refine r_iconst C dX3_mixPrints_35 (v := 0) (by decide) ?_
        refine r_istore_n C dX3_mixPrints_36 (lv2 := [(2, .int 0), (1, .int (nI i)), (0, .ref m0)]) (by decide) rfl ?_
        have L_37 : ∀ (z w : Nat), w ≤ nl → nl < w + z → ∀ (hw : Int64), hw = ntF (mxF hh (nw (16 + i))) nw i w → Wr G 0 0 37 [(2, .int (nI w)), (1, .int (nI i)), (0, .ref m0)] [] [(n0, .inl (cI, 148, .inl nw)), (m0, .inr (3, [.ref n0, .ref q0, .int (nI sv), .ref r0, .ref t0, .ref w0, .ref u0, .ref v0, .ref y0, .int tm, .long hw]))] := by
          intro z
          induction z with
          | zero => intro w h1 h2; exact absurd h2 (by omega)
          | succ z ih_37 =>
            intro w hi_37 hz_37 hw e_hw
            refine r_iload_n C dX3_mixPrints_37 0 rfl ?_
            refine r_aload_n C dX3_mixPrints_38 2 rfl ?_
            refine r_get C clX3 dX3_mixPrints_39 1 0 rfl (by decide) q_399 rfl ?_
            refine r_iconst C dX3_mixPrints_42 (v := 0) (by decide) ?_
            refine r_iald C dX3_mixPrints_43 0 rfl 0 rfl (by decide) (by decide) ?_
            refine r_top (b := nI nl) e0 ?_
            refine r_icmp_ge C dX3_mixPrints_44 (tgt := 63) (by decide) (fun c_3 => ?_) (fun c_3 => ?_)
            · have n_4 := (nI_leI (a := nl) (b := w) (by omega) (by omega)).mp c_3
              have ex_37 : nl = w := by omega
              subst ex_37
              subst e_hw
              refine r_iinc C dX3_mixPrints_63 1 rfl (v := nI (i + 1)) (nI_1 _) (by decide) (lv2 := [(1, .int (nI (i + 1))), (2, .int (nI nl)), (0, .ref m0)]) rfl ?_
              refine r_goto C dX3_mixPrints_66 (tgt := 12) (by decide) ?_
              refine r_lv [0, 2] (lv2 := [(1, .int (nI (i + 1))), (0, .ref m0)]) rfl ?_
              exact ih_12 (i + 1) (by omega) (by omega) _ (by subst e_hh; rfl) 
            · have n_4 := mt (nI_leI (a := nl) (b := w) (by omega) (by omega)).mpr c_3
              refine r_aload_n C dX3_mixPrints_47 2 rfl ?_
              refine r_aload_n C dX3_mixPrints_48 2 rfl ?_
              refine r_iload_n C dX3_mixPrints_49 1 rfl ?_
              refine r_iload_n C dX3_mixPrints_50 0 rfl ?_
              refine r_callV C (As := [.int (nI i), .int (nI w)]) (rest := [.ref m0]) (wr := []) (c_X3_toneOf l D cI cR m0 n0 q0 sv r0 t0 w0 u0 v0 y0 tm hw nw i w (by first | assumption | omega) (by first | assumption | omega)) k_X3_toneOf rfl dX3_mixPrints_51 q_525 q_527 q_18 ⟨nle rfl, nle rfl⟩ [1, 0] [] rfl rfl rfl rfl (by decide) 0 rfl rfl rfl (nle rfl) ⟨nle rfl, nle rfl⟩ (r_fin (st2 := [.int (nw (28 + 10 * i + w)), .ref m0]) (ws2 := [(m0, .inr (3, [.ref n0, .ref q0, .int (nI sv), .ref r0, .ref t0, .ref w0, .ref u0, .ref v0, .ref y0, .int tm, .long hw])), (n0, .inl (cI, 148, .inl nw))]) rfl rfl ?_)
              refine r_callV C (As := [.int (nw (28 + 10 * i + w))]) (rest := []) (wr := [(n0, .inl (cI, 148, .inl nw))]) (c_X3_mix l D cI cR m0 n0 q0 sv r0 t0 w0 u0 v0 y0 tm hw (nw (28 + 10 * i + w)) ) k_X3_mix rfl dX3_mixPrints_54 q_610 q_612 q_29 ⟨nle rfl, nle rfl⟩ [0] [1] rfl rfl rfl rfl (by decide) 0 rfl rfl rfl (nle rfl) ⟨nle rfl, nle rfl⟩ (r_fin (st2 := []) (ws2 := [(n0, .inl (cI, 148, .inl nw)), (m0, .inr (3, [.ref n0, .ref q0, .int (nI sv), .ref r0, .ref t0, .ref w0, .ref u0, .ref v0, .ref y0, .int tm, .long (mxF hw (nw (28 + 10 * i + w)))]))]) rfl rfl ?_)
              refine r_iinc C dX3_mixPrints_57 0 rfl (v := nI (w + 1)) (nI_1 _) (by decide) (lv2 := [(2, .int (nI (w + 1))), (1, .int (nI i)), (0, .ref m0)]) rfl ?_
              refine r_goto C dX3_mixPrints_60 (tgt := 37) (by decide) ?_
              exact ih_37 (w + 1) (by omega) (by omega) _ (by subst e_hw; rfl) 
        exact L_37 (nl + 1) 0 (by omega) (by omega) _ rfl 
  exact L_12 (pr + 1) 0 (by omega) (by omega) _ rfl 
set_option maxHeartbeats 4000000 in
set_option maxRecDepth 100000 in
/-- mixPlan() -/
theorem c_X3_mixPlan (l : Launch) (D : va_G) (cI cR : ClassId) (m0 : Nat) (n0 : Nat) (q0 : Nat) (sv : Nat) (r0 : Nat) (t0 : Nat) (w0 : Nat) (u0 : Nat) (v0 : Nat) (y0 : Nat) (tm : Int32) (hs : Int64) (nw : Nat → Int32) (tg : Nat → Int32) (tt : Nat → Int32) (us : Nat → Int32) (nl : Nat) (e0 : nw 0 = nI nl) (hnl : nl ≤ 10) : Ctr l D cI cR yX3_mixPlan cX3_mixPlan 2 none ({ frames := 4, cells := 0, slots := 0, locals := 88 }) [.ref m0] [(m0, .inr (3, [.ref n0, .ref q0, .int (nI sv), .ref r0, .ref t0, .ref w0, .ref u0, .ref v0, .ref y0, .int tm, .long hs])), (n0, .inl (cI, 148, .inl nw)), (t0, .inl (cI, 10, .inl tg)), (v0, .inl (cI, 10, .inl tt)), (y0, .inl (cI, 10, .inl us))] (rP none [(m0, .inr (3, [.ref n0, .ref q0, .int (nI sv), .ref r0, .ref t0, .ref w0, .ref u0, .ref v0, .ref y0, .int (nI (tmF nw tg tt nl)), .long (nqF (mxF hs (nI (tmF nw tg tt nl))) (usW nw tg (ttF nw tg tt nl) (tmF nw tg tt nl) us nl) (ttF nw tg tt nl) nl (tmF nw tg tt nl))])), (n0, .inl (cI, 148, .inl nw)), (t0, .inl (cI, 10, .inl tg)), (v0, .inl (cI, 10, .inl (ttF nw tg tt nl))), (y0, .inl (cI, 10, .inl (usW nw tg (ttF nw tg tt nl) (tmF nw tg tt nl) us nl)))]) := by
  refine ctr_of (lv0 := [(0, .ref m0)]) (by decide) (nle rfl) rfl (fun G C E => ?_)
  refine r_aload_n C dX3_mixPlan_0 0 rfl ?_
  refine r_callV C (As := []) (rest := []) (wr := []) (c_X3_plans l D cI cR m0 n0 q0 sv r0 t0 w0 u0 v0 y0 tm hs nw tg tt us nl (by first | assumption | omega) (by first | assumption | omega)) k_X3_plans rfl dX3_mixPlan_1 q_569 q_571 q_24 ⟨nle rfl, nle rfl⟩ [0, 1, 2, 3, 4] [] rfl rfl rfl rfl (by decide) 0 rfl rfl rfl (nle rfl) ⟨nle rfl, nle rfl⟩ (r_fin (st2 := []) (ws2 := [(m0, .inr (3, [.ref n0, .ref q0, .int (nI sv), .ref r0, .ref t0, .ref w0, .ref u0, .ref v0, .ref y0, .int (nI (tmF nw tg tt nl)), .long hs])), (n0, .inl (cI, 148, .inl nw)), (t0, .inl (cI, 10, .inl tg)), (v0, .inl (cI, 10, .inl (ttF nw tg tt nl))), (y0, .inl (cI, 10, .inl (usW nw tg (ttF nw tg tt nl) (tmF nw tg tt nl) us nl)))]) rfl rfl ?_)
  refine r_aload_n C dX3_mixPlan_4 0 rfl ?_
  refine r_aload_n C dX3_mixPlan_5 0 rfl ?_
  refine r_get C clX3 dX3_mixPlan_6 0 9 rfl (by decide) q_408 rfl ?_
  refine r_callV C (As := [.int (nI (tmF nw tg tt nl))]) (rest := []) (wr := [(n0, .inl (cI, 148, .inl nw)), (t0, .inl (cI, 10, .inl tg)), (v0, .inl (cI, 10, .inl (ttF nw tg tt nl))), (y0, .inl (cI, 10, .inl (usW nw tg (ttF nw tg tt nl) (tmF nw tg tt nl) us nl)))]) (c_X3_mix l D cI cR m0 n0 q0 sv r0 t0 w0 u0 v0 y0 (nI (tmF nw tg tt nl)) hs (nI (tmF nw tg tt nl)) ) k_X3_mix rfl dX3_mixPlan_9 q_610 q_612 q_29 ⟨nle rfl, nle rfl⟩ [0] [1, 2, 3, 4] rfl rfl rfl rfl (by decide) 0 rfl rfl rfl (nle rfl) ⟨nle rfl, nle rfl⟩ (r_fin (st2 := []) (ws2 := [(n0, .inl (cI, 148, .inl nw)), (t0, .inl (cI, 10, .inl tg)), (v0, .inl (cI, 10, .inl (ttF nw tg tt nl))), (y0, .inl (cI, 10, .inl (usW nw tg (ttF nw tg tt nl) (tmF nw tg tt nl) us nl))), (m0, .inr (3, [.ref n0, .ref q0, .int (nI sv), .ref r0, .ref t0, .ref w0, .ref u0, .ref v0, .ref y0, .int (nI (tmF nw tg tt nl)), .long (mxF hs (nI (tmF nw tg tt nl)))]))]) rfl rfl ?_)
  refine r_iconst C dX3_mixPlan_12 (v := 0) (by decide) ?_
  refine r_istore_n C dX3_mixPlan_13 (lv2 := [(1, .int 0), (0, .ref m0)]) (by decide) rfl ?_
  have L_14 : ∀ (z i : Nat), i ≤ tmF nw tg tt nl → tmF nw tg tt nl < i + z → ∀ (hh : Int64), hh = nqF (mxF hs (nI (tmF nw tg tt nl))) (usW nw tg (ttF nw tg tt nl) (tmF nw tg tt nl) us nl) (ttF nw tg tt nl) nl i → Wr G 0 0 14 [(1, .int (nI i)), (0, .ref m0)] [] [(n0, .inl (cI, 148, .inl nw)), (t0, .inl (cI, 10, .inl tg)), (v0, .inl (cI, 10, .inl (ttF nw tg tt nl))), (y0, .inl (cI, 10, .inl (usW nw tg (ttF nw tg tt nl) (tmF nw tg tt nl) us nl))), (m0, .inr (3, [.ref n0, .ref q0, .int (nI sv), .ref r0, .ref t0, .ref w0, .ref u0, .ref v0, .ref y0, .int (nI (tmF nw tg tt nl)), .long hh]))] := by
    intro z
    induction z with
    | zero => intro i h1 h2; exact absurd h2 (by omega)
    | succ z ih_14 =>
      intro i hi_14 hz_14 hh e_hh
      have hdl := tm_le nw tg tt nl
      refine r_iload_n C dX3_mixPlan_14 0 rfl ?_
      refine r_aload_n C dX3_mixPlan_15 1 rfl ?_
      refine r_get C clX3 dX3_mixPlan_16 4 9 rfl (by decide) q_408 rfl ?_
      refine r_icmp_ge C dX3_mixPlan_19 (tgt := 46) (by decide) (fun c_1 => ?_) (fun c_1 => ?_)
      · have n_2 := (nI_leI (a := tmF nw tg tt nl) (b := i) (by omega) (by omega)).mp c_1
        have ex_14 : i = tmF nw tg tt nl := by omega
        subst ex_14
        subst e_hh
        refine r_ws [4, 0, 1, 2, 3] (ws2 := [(m0, .inr (3, [.ref n0, .ref q0, .int (nI sv), .ref r0, .ref t0, .ref w0, .ref u0, .ref v0, .ref y0, .int (nI (tmF nw tg tt nl)), .long (nqF (mxF hs (nI (tmF nw tg tt nl))) (usW nw tg (ttF nw tg tt nl) (tmF nw tg tt nl) us nl) (ttF nw tg tt nl) nl (tmF nw tg tt nl))])), (n0, .inl (cI, 148, .inl nw)), (t0, .inl (cI, 10, .inl tg)), (v0, .inl (cI, 10, .inl (ttF nw tg tt nl))), (y0, .inl (cI, 10, .inl (usW nw tg (ttF nw tg tt nl) (tmF nw tg tt nl) us nl)))]) rfl rfl ?_
        exact r_vret C E dX3_mixPlan_46 (nle rfl) (nle rfl) ⟨rfl, rfl⟩
      · have n_2 := mt (nI_leI (a := tmF nw tg tt nl) (b := i) (by omega) (by omega)).mpr c_1
        refine r_aload_n C dX3_mixPlan_22 1 rfl ?_
        refine r_aload_n C dX3_mixPlan_23 1 rfl ?_
        refine r_iload_n C dX3_mixPlan_24 0 rfl ?_
        refine r_callV C (As := [.int (nI i)]) (rest := [.ref m0]) (wr := [(n0, .inl (cI, 148, .inl nw)), (t0, .inl (cI, 10, .inl tg)), (y0, .inl (cI, 10, .inl (usW nw tg (ttF nw tg tt nl) (tmF nw tg tt nl) us nl)))]) (c_X3_minutesOf l D cI cR m0 n0 q0 sv r0 t0 w0 u0 v0 y0 (nI (tmF nw tg tt nl)) hh (ttF nw tg tt nl) i (by first | assumption | omega)) k_X3_minutesOf rfl dX3_mixPlan_25 q_585 q_587 q_27 ⟨nle rfl, nle rfl⟩ [4, 2] [0, 1, 3] rfl rfl rfl rfl (by decide) 0 rfl rfl rfl (nle rfl) ⟨nle rfl, nle rfl⟩ (r_fin (st2 := [.int ((ttF nw tg tt nl) i - tb2 (ttF nw tg tt nl) i), .ref m0]) (ws2 := [(n0, .inl (cI, 148, .inl nw)), (t0, .inl (cI, 10, .inl tg)), (y0, .inl (cI, 10, .inl (usW nw tg (ttF nw tg tt nl) (tmF nw tg tt nl) us nl))), (m0, .inr (3, [.ref n0, .ref q0, .int (nI sv), .ref r0, .ref t0, .ref w0, .ref u0, .ref v0, .ref y0, .int (nI (tmF nw tg tt nl)), .long hh])), (v0, .inl (cI, 10, .inl (ttF nw tg tt nl)))]) rfl rfl ?_)
        refine r_callV C (As := [.int ((ttF nw tg tt nl) i - tb2 (ttF nw tg tt nl) i)]) (rest := []) (wr := [(n0, .inl (cI, 148, .inl nw)), (t0, .inl (cI, 10, .inl tg)), (y0, .inl (cI, 10, .inl (usW nw tg (ttF nw tg tt nl) (tmF nw tg tt nl) us nl))), (v0, .inl (cI, 10, .inl (ttF nw tg tt nl)))]) (c_X3_mix l D cI cR m0 n0 q0 sv r0 t0 w0 u0 v0 y0 (nI (tmF nw tg tt nl)) hh ((ttF nw tg tt nl) i - tb2 (ttF nw tg tt nl) i) ) k_X3_mix rfl dX3_mixPlan_28 q_610 q_612 q_29 ⟨nle rfl, nle rfl⟩ [3] [0, 1, 2, 4] rfl rfl rfl rfl (by decide) 0 rfl rfl rfl (nle rfl) ⟨nle rfl, nle rfl⟩ (r_fin (st2 := []) (ws2 := [(n0, .inl (cI, 148, .inl nw)), (t0, .inl (cI, 10, .inl tg)), (y0, .inl (cI, 10, .inl (usW nw tg (ttF nw tg tt nl) (tmF nw tg tt nl) us nl))), (v0, .inl (cI, 10, .inl (ttF nw tg tt nl))), (m0, .inr (3, [.ref n0, .ref q0, .int (nI sv), .ref r0, .ref t0, .ref w0, .ref u0, .ref v0, .ref y0, .int (nI (tmF nw tg tt nl)), .long (mxF hh ((ttF nw tg tt nl) i - tb2 (ttF nw tg tt nl) i))]))]) rfl rfl ?_)
        refine r_aload_n C dX3_mixPlan_31 1 rfl ?_
        refine r_aload_n C dX3_mixPlan_32 1 rfl ?_
        refine r_iload_n C dX3_mixPlan_33 0 rfl ?_
        refine r_callV C (As := [.int (nI i)]) (rest := [.ref m0]) (wr := [(t0, .inl (cI, 10, .inl tg))]) (c_X3_doneBefore l D cI cR m0 n0 q0 sv r0 t0 w0 u0 v0 y0 (nI (tmF nw tg tt nl)) (mxF hh ((ttF nw tg tt nl) i - tb2 (ttF nw tg tt nl) i)) nw (ttF nw tg tt nl) (usW nw tg (ttF nw tg tt nl) (tmF nw tg tt nl) us nl) nl i (by first | assumption | omega) (by first | assumption | omega) (by first | assumption | omega)) k_X3_doneBefore rfl dX3_mixPlan_34 q_593 q_595 q_28 ⟨nle rfl, nle rfl⟩ [4, 0, 3, 2] [1] rfl rfl rfl rfl (by decide) 0 rfl rfl rfl (nle rfl) ⟨nle rfl, nle rfl⟩ (r_fin (st2 := [.int (dbF (usW nw tg (ttF nw tg tt nl) (tmF nw tg tt nl) us nl) (tb2 (ttF nw tg tt nl) i) nl), .ref m0]) (ws2 := [(t0, .inl (cI, 10, .inl tg)), (m0, .inr (3, [.ref n0, .ref q0, .int (nI sv), .ref r0, .ref t0, .ref w0, .ref u0, .ref v0, .ref y0, .int (nI (tmF nw tg tt nl)), .long (mxF hh ((ttF nw tg tt nl) i - tb2 (ttF nw tg tt nl) i))])), (n0, .inl (cI, 148, .inl nw)), (v0, .inl (cI, 10, .inl (ttF nw tg tt nl))), (y0, .inl (cI, 10, .inl (usW nw tg (ttF nw tg tt nl) (tmF nw tg tt nl) us nl)))]) rfl rfl ?_)
        refine r_callV C (As := [.int (dbF (usW nw tg (ttF nw tg tt nl) (tmF nw tg tt nl) us nl) (tb2 (ttF nw tg tt nl) i) nl)]) (rest := []) (wr := [(t0, .inl (cI, 10, .inl tg)), (n0, .inl (cI, 148, .inl nw)), (v0, .inl (cI, 10, .inl (ttF nw tg tt nl))), (y0, .inl (cI, 10, .inl (usW nw tg (ttF nw tg tt nl) (tmF nw tg tt nl) us nl)))]) (c_X3_mix l D cI cR m0 n0 q0 sv r0 t0 w0 u0 v0 y0 (nI (tmF nw tg tt nl)) (mxF hh ((ttF nw tg tt nl) i - tb2 (ttF nw tg tt nl) i)) (dbF (usW nw tg (ttF nw tg tt nl) (tmF nw tg tt nl) us nl) (tb2 (ttF nw tg tt nl) i) nl) ) k_X3_mix rfl dX3_mixPlan_37 q_610 q_612 q_29 ⟨nle rfl, nle rfl⟩ [1] [0, 2, 3, 4] rfl rfl rfl rfl (by decide) 0 rfl rfl rfl (nle rfl) ⟨nle rfl, nle rfl⟩ (r_fin (st2 := []) (ws2 := [(t0, .inl (cI, 10, .inl tg)), (n0, .inl (cI, 148, .inl nw)), (v0, .inl (cI, 10, .inl (ttF nw tg tt nl))), (y0, .inl (cI, 10, .inl (usW nw tg (ttF nw tg tt nl) (tmF nw tg tt nl) us nl))), (m0, .inr (3, [.ref n0, .ref q0, .int (nI sv), .ref r0, .ref t0, .ref w0, .ref u0, .ref v0, .ref y0, .int (nI (tmF nw tg tt nl)), .long (mxF (mxF hh ((ttF nw tg tt nl) i - tb2 (ttF nw tg tt nl) i)) (dbF (usW nw tg (ttF nw tg tt nl) (tmF nw tg tt nl) us nl) (tb2 (ttF nw tg tt nl) i) nl))]))]) rfl rfl ?_)
        refine r_iinc C dX3_mixPlan_40 0 rfl (v := nI (i + 1)) (nI_1 _) (by decide) (lv2 := [(1, .int (nI (i + 1))), (0, .ref m0)]) rfl ?_
        refine r_goto C dX3_mixPlan_43 (tgt := 14) (by decide) ?_
        refine r_ws [1, 0, 2, 3, 4] (ws2 := [(n0, .inl (cI, 148, .inl nw)), (t0, .inl (cI, 10, .inl tg)), (v0, .inl (cI, 10, .inl (ttF nw tg tt nl))), (y0, .inl (cI, 10, .inl (usW nw tg (ttF nw tg tt nl) (tmF nw tg tt nl) us nl))), (m0, .inr (3, [.ref n0, .ref q0, .int (nI sv), .ref r0, .ref t0, .ref w0, .ref u0, .ref v0, .ref y0, .int (nI (tmF nw tg tt nl)), .long (mxF (mxF hh ((ttF nw tg tt nl) i - tb2 (ttF nw tg tt nl) i)) (dbF (usW nw tg (ttF nw tg tt nl) (tmF nw tg tt nl) us nl) (tb2 (ttF nw tg tt nl) i) nl))]))]) rfl rfl ?_
        exact ih_14 (i + 1) (by omega) (by omega) _ (by subst e_hh; rfl) 
  exact L_14 (tmF nw tg tt nl + 1) 0 (by omega) (by omega) _ rfl 
set_option maxHeartbeats 4000000 in
set_option maxRecDepth 100000 in
/-- digest() -/
theorem c_X3_digest_no (l : Launch) (D : va_G) (cI cR : ClassId) (m0 : Nat) (n0 : Nat) (q0 : Nat) (sv : Nat) (r0 : Nat) (t0 : Nat) (w0 : Nat) (u0 : Nat) (v0 : Nat) (y0 : Nat) (tm : Int32) (hs : Int64) (nw : Nat → Int32) (tg : Nat → Int32) (er : Nat → Int32) (wy : Nat → Int32) (ah : Nat → Int32) (tt : Nat → Int32) (us : Nat → Int32) (nl : Nat) (pr : Nat) (e0 : nw 0 = nI nl) (e4 : nw 4 = nI pr) (hnl : nl ≤ 10) (hpr : pr ≤ 12) (hb : ¬ obF nw tg nl = 0) : Ctr l D cI cR yX3_digest cX3_digest 2 ((some .long)) ({ frames := 5, cells := 0, slots := 0, locals := 109 }) [.ref m0] [(m0, .inr (3, [.ref n0, .ref q0, .int (nI sv), .ref r0, .ref t0, .ref w0, .ref u0, .ref v0, .ref y0, .int tm, .long hs])), (n0, .inl (cI, 148, .inl nw)), (t0, .inl (cI, 10, .inl tg)), (r0, .inl (cI, 4, .inl er)), (w0, .inl (cI, 4096, .inl wy)), (u0, .inl (cI, 12, .inl ah)), (v0, .inl (cI, 10, .inl tt)), (y0, .inl (cI, 10, .inl us))] (rP (some (.long (mxF (mxF (mxF (npF (mxF (mxF (nlF (mxF (mxF (meF er 4) (nw 1)) (nI nl)) nw tg nl) (nw 5)) (nI pr)) nw nl pr) (obF nw tg nl)) (wyO (ahO ah nw pr pr) wy pr (2 ^ pr - 1) (2 ^ pr - 1))) (nI sv)))) [(m0, .inr (3, [.ref n0, .ref q0, .int (nI sv), .ref r0, .ref t0, .ref w0, .ref u0, .ref v0, .ref y0, .int tm, .long (mxF (mxF (mxF (npF (mxF (mxF (nlF (mxF (mxF (meF er 4) (nw 1)) (nI nl)) nw tg nl) (nw 5)) (nI pr)) nw nl pr) (obF nw tg nl)) (wyO (ahO ah nw pr pr) wy pr (2 ^ pr - 1) (2 ^ pr - 1))) (nI sv))])), (n0, .inl (cI, 148, .inl nw)), (t0, .inl (cI, 10, .inl tg)), (r0, .inl (cI, 4, .inl er)), (w0, .inl (cI, 4096, .inl (wyO (ahO ah nw pr pr) wy pr (2 ^ pr - 1)))), (u0, .inl (cI, 12, .inl (ahO ah nw pr pr))), (v0, .inl (cI, 10, .inl tt)), (y0, .inl (cI, 10, .inl us))]) := by
  refine ctr_of (lv0 := [(0, .ref m0)]) (by decide) (nle rfl) rfl (fun G C E => ?_)
  refine r_aload_n C dX3_digest_0 0 rfl ?_
  refine r_ldc2 C dX3_digest_1 (v := 2689) q_609 ?_
  refine r_put C clX3 dX3_digest_4 0 10 rfl (by decide) q_409 rfl rfl rfl (nle rfl) (ws2 := [(m0, .inr (3, [.ref n0, .ref q0, .int (nI sv), .ref r0, .ref t0, .ref w0, .ref u0, .ref v0, .ref y0, .int tm, .long (2689 : Int64)])), (n0, .inl (cI, 148, .inl nw)), (t0, .inl (cI, 10, .inl tg)), (r0, .inl (cI, 4, .inl er)), (w0, .inl (cI, 4096, .inl wy)), (u0, .inl (cI, 12, .inl ah)), (v0, .inl (cI, 10, .inl tt)), (y0, .inl (cI, 10, .inl us))]) rfl ?_
  refine r_iconst C dX3_digest_7 (v := 0) (by decide) ?_
  refine r_istore_n C dX3_digest_8 (lv2 := [(1, .int 0), (0, .ref m0)]) (by decide) rfl ?_
  have L_9 : ∀ (z i : Nat), i ≤ 4 → 4 < i + z → ∀ (hh : Int64), hh = meF er i → Wr G 0 0 9 [(1, .int (nI i)), (0, .ref m0)] [] [(m0, .inr (3, [.ref n0, .ref q0, .int (nI sv), .ref r0, .ref t0, .ref w0, .ref u0, .ref v0, .ref y0, .int tm, .long hh])), (n0, .inl (cI, 148, .inl nw)), (t0, .inl (cI, 10, .inl tg)), (r0, .inl (cI, 4, .inl er)), (w0, .inl (cI, 4096, .inl wy)), (u0, .inl (cI, 12, .inl ah)), (v0, .inl (cI, 10, .inl tt)), (y0, .inl (cI, 10, .inl us))] := by
    intro z
    induction z with
    | zero => intro i h1 h2; exact absurd h2 (by omega)
    | succ z ih_9 =>
      intro i hi_9 hz_9 hh e_hh
      refine r_iload_n C dX3_digest_9 0 rfl ?_
      refine r_iconst C dX3_digest_10 (v := 4) (by decide) ?_
      refine r_icmp_ge C dX3_digest_11 (tgt := 30) (by decide) (fun c_1 => ?_) (fun c_1 => ?_)
      · have n_2 := (nI_leI (a := 4) (b := i) (by omega) (by omega)).mp c_1
        have ex_9 : i = 4 := by omega
        subst ex_9
        subst e_hh
        refine r_aload_n C dX3_digest_30 1 rfl ?_
        refine r_aload_n C dX3_digest_31 1 rfl ?_
        refine r_get C clX3 dX3_digest_32 0 0 rfl (by decide) q_399 rfl ?_
        refine r_iconst C dX3_digest_35 (v := 1) (by decide) ?_
        refine r_iald C dX3_digest_36 1 rfl 1 rfl (by decide) (by decide) ?_
        refine r_callV C (As := [.int (nw 1)]) (rest := []) (wr := [(n0, .inl (cI, 148, .inl nw)), (t0, .inl (cI, 10, .inl tg)), (r0, .inl (cI, 4, .inl er)), (w0, .inl (cI, 4096, .inl wy)), (u0, .inl (cI, 12, .inl ah)), (v0, .inl (cI, 10, .inl tt)), (y0, .inl (cI, 10, .inl us))]) (c_X3_mix l D cI cR m0 n0 q0 sv r0 t0 w0 u0 v0 y0 tm (meF er 4) (nw 1) ) k_X3_mix rfl dX3_digest_37 q_610 q_612 q_29 ⟨nle rfl, nle rfl⟩ [0] [1, 2, 3, 4, 5, 6, 7] rfl rfl rfl rfl (by decide) 0 rfl rfl rfl (nle rfl) ⟨nle rfl, nle rfl⟩ (r_fin (st2 := []) (ws2 := [(n0, .inl (cI, 148, .inl nw)), (t0, .inl (cI, 10, .inl tg)), (r0, .inl (cI, 4, .inl er)), (w0, .inl (cI, 4096, .inl wy)), (u0, .inl (cI, 12, .inl ah)), (v0, .inl (cI, 10, .inl tt)), (y0, .inl (cI, 10, .inl us)), (m0, .inr (3, [.ref n0, .ref q0, .int (nI sv), .ref r0, .ref t0, .ref w0, .ref u0, .ref v0, .ref y0, .int tm, .long (mxF (meF er 4) (nw 1))]))]) rfl rfl ?_)
        refine r_aload_n C dX3_digest_40 1 rfl ?_
        refine r_aload_n C dX3_digest_41 1 rfl ?_
        refine r_get C clX3 dX3_digest_42 7 0 rfl (by decide) q_399 rfl ?_
        refine r_iconst C dX3_digest_45 (v := 0) (by decide) ?_
        refine r_iald C dX3_digest_46 0 rfl 0 rfl (by decide) (by decide) ?_
        refine r_top (b := nI nl) e0 ?_
        refine r_callV C (As := [.int (nI nl)]) (rest := []) (wr := [(n0, .inl (cI, 148, .inl nw)), (t0, .inl (cI, 10, .inl tg)), (r0, .inl (cI, 4, .inl er)), (w0, .inl (cI, 4096, .inl wy)), (u0, .inl (cI, 12, .inl ah)), (v0, .inl (cI, 10, .inl tt)), (y0, .inl (cI, 10, .inl us))]) (c_X3_mix l D cI cR m0 n0 q0 sv r0 t0 w0 u0 v0 y0 tm (mxF (meF er 4) (nw 1)) (nI nl) ) k_X3_mix rfl dX3_digest_47 q_610 q_612 q_29 ⟨nle rfl, nle rfl⟩ [7] [0, 1, 2, 3, 4, 5, 6] rfl rfl rfl rfl (by decide) 0 rfl rfl rfl (nle rfl) ⟨nle rfl, nle rfl⟩ (r_fin (st2 := []) (ws2 := [(n0, .inl (cI, 148, .inl nw)), (t0, .inl (cI, 10, .inl tg)), (r0, .inl (cI, 4, .inl er)), (w0, .inl (cI, 4096, .inl wy)), (u0, .inl (cI, 12, .inl ah)), (v0, .inl (cI, 10, .inl tt)), (y0, .inl (cI, 10, .inl us)), (m0, .inr (3, [.ref n0, .ref q0, .int (nI sv), .ref r0, .ref t0, .ref w0, .ref u0, .ref v0, .ref y0, .int tm, .long (mxF (mxF (meF er 4) (nw 1)) (nI nl))]))]) rfl rfl ?_)
        refine r_iconst C dX3_digest_50 (v := 0) (by decide) ?_
        refine r_istore_n C dX3_digest_51 (lv2 := [(1, .int 0), (0, .ref m0)]) (by decide) rfl ?_
        have L_52 : ∀ (z i : Nat), i ≤ nl → nl < i + z → ∀ (hh : Int64), hh = nlF (mxF (mxF (meF er 4) (nw 1)) (nI nl)) nw tg i → Wr G 0 0 52 [(1, .int (nI i)), (0, .ref m0)] [] [(n0, .inl (cI, 148, .inl nw)), (t0, .inl (cI, 10, .inl tg)), (r0, .inl (cI, 4, .inl er)), (w0, .inl (cI, 4096, .inl wy)), (u0, .inl (cI, 12, .inl ah)), (v0, .inl (cI, 10, .inl tt)), (y0, .inl (cI, 10, .inl us)), (m0, .inr (3, [.ref n0, .ref q0, .int (nI sv), .ref r0, .ref t0, .ref w0, .ref u0, .ref v0, .ref y0, .int tm, .long hh]))] := by
          intro z
          induction z with
          | zero => intro i h1 h2; exact absurd h2 (by omega)
          | succ z ih_52 =>
            intro i hi_52 hz_52 hh e_hh
            refine r_iload_n C dX3_digest_52 0 rfl ?_
            refine r_aload_n C dX3_digest_53 1 rfl ?_
            refine r_get C clX3 dX3_digest_54 7 0 rfl (by decide) q_399 rfl ?_
            refine r_iconst C dX3_digest_57 (v := 0) (by decide) ?_
            refine r_iald C dX3_digest_58 0 rfl 0 rfl (by decide) (by decide) ?_
            refine r_top (b := nI nl) e0 ?_
            refine r_icmp_ge C dX3_digest_59 (tgt := 91) (by decide) (fun c_3 => ?_) (fun c_3 => ?_)
            · have n_4 := (nI_leI (a := nl) (b := i) (by omega) (by omega)).mp c_3
              have ex_52 : nl = i := by omega
              subst ex_52
              subst e_hh
              refine r_aload_n C dX3_digest_91 1 rfl ?_
              refine r_aload_n C dX3_digest_92 1 rfl ?_
              refine r_get C clX3 dX3_digest_93 7 0 rfl (by decide) q_399 rfl ?_
              refine r_iconst C dX3_digest_96 (v := 5) (by decide) ?_
              refine r_iald C dX3_digest_97 0 rfl 5 rfl (by decide) (by decide) ?_
              refine r_callV C (As := [.int (nw 5)]) (rest := []) (wr := [(n0, .inl (cI, 148, .inl nw)), (t0, .inl (cI, 10, .inl tg)), (r0, .inl (cI, 4, .inl er)), (w0, .inl (cI, 4096, .inl wy)), (u0, .inl (cI, 12, .inl ah)), (v0, .inl (cI, 10, .inl tt)), (y0, .inl (cI, 10, .inl us))]) (c_X3_mix l D cI cR m0 n0 q0 sv r0 t0 w0 u0 v0 y0 tm (nlF (mxF (mxF (meF er 4) (nw 1)) (nI nl)) nw tg nl) (nw 5) ) k_X3_mix rfl dX3_digest_98 q_610 q_612 q_29 ⟨nle rfl, nle rfl⟩ [7] [0, 1, 2, 3, 4, 5, 6] rfl rfl rfl rfl (by decide) 0 rfl rfl rfl (nle rfl) ⟨nle rfl, nle rfl⟩ (r_fin (st2 := []) (ws2 := [(n0, .inl (cI, 148, .inl nw)), (t0, .inl (cI, 10, .inl tg)), (r0, .inl (cI, 4, .inl er)), (w0, .inl (cI, 4096, .inl wy)), (u0, .inl (cI, 12, .inl ah)), (v0, .inl (cI, 10, .inl tt)), (y0, .inl (cI, 10, .inl us)), (m0, .inr (3, [.ref n0, .ref q0, .int (nI sv), .ref r0, .ref t0, .ref w0, .ref u0, .ref v0, .ref y0, .int tm, .long (mxF (nlF (mxF (mxF (meF er 4) (nw 1)) (nI nl)) nw tg nl) (nw 5))]))]) rfl rfl ?_)
              refine r_aload_n C dX3_digest_101 1 rfl ?_
              refine r_callV C (As := []) (rest := []) (wr := [(t0, .inl (cI, 10, .inl tg)), (r0, .inl (cI, 4, .inl er)), (w0, .inl (cI, 4096, .inl wy)), (u0, .inl (cI, 12, .inl ah)), (v0, .inl (cI, 10, .inl tt)), (y0, .inl (cI, 10, .inl us))]) (c_X3_mixPrints l D cI cR m0 n0 q0 sv r0 t0 w0 u0 v0 y0 tm (mxF (nlF (mxF (mxF (meF er 4) (nw 1)) (nI nl)) nw tg nl) (nw 5)) nw nl pr (by first | assumption | omega) (by first | assumption | omega) (by first | assumption | omega) (by first | assumption | omega)) k_X3_mixPrints rfl dX3_digest_102 q_615 q_617 q_30 ⟨nle rfl, nle rfl⟩ [7, 0] [1, 2, 3, 4, 5, 6] rfl rfl rfl rfl (by decide) 0 rfl rfl rfl (nle rfl) ⟨nle rfl, nle rfl⟩ (r_fin (st2 := []) (ws2 := [(t0, .inl (cI, 10, .inl tg)), (r0, .inl (cI, 4, .inl er)), (w0, .inl (cI, 4096, .inl wy)), (u0, .inl (cI, 12, .inl ah)), (v0, .inl (cI, 10, .inl tt)), (y0, .inl (cI, 10, .inl us)), (m0, .inr (3, [.ref n0, .ref q0, .int (nI sv), .ref r0, .ref t0, .ref w0, .ref u0, .ref v0, .ref y0, .int tm, .long (npF (mxF (mxF (nlF (mxF (mxF (meF er 4) (nw 1)) (nI nl)) nw tg nl) (nw 5)) (nI pr)) nw nl pr)])), (n0, .inl (cI, 148, .inl nw))]) rfl rfl ?_)
              refine r_aload_n C dX3_digest_105 1 rfl ?_
              refine r_aload_n C dX3_digest_106 1 rfl ?_
              refine r_callV C (As := []) (rest := [.ref m0]) (wr := [(r0, .inl (cI, 4, .inl er)), (w0, .inl (cI, 4096, .inl wy)), (u0, .inl (cI, 12, .inl ah)), (v0, .inl (cI, 10, .inl tt)), (y0, .inl (cI, 10, .inl us))]) (c_X3_blocked l D cI cR m0 n0 q0 sv r0 t0 w0 u0 v0 y0 tm (npF (mxF (mxF (nlF (mxF (mxF (meF er 4) (nw 1)) (nI nl)) nw tg nl) (nw 5)) (nI pr)) nw nl pr) nw tg nl (by first | assumption | omega) (by first | assumption | omega)) k_X3_blocked rfl dX3_digest_107 q_557 q_559 q_21 ⟨nle rfl, nle rfl⟩ [6, 7, 0] [1, 2, 3, 4, 5] rfl rfl rfl rfl (by decide) 0 rfl rfl rfl (nle rfl) ⟨nle rfl, nle rfl⟩ (r_fin (st2 := [.int (obF nw tg nl), .ref m0]) (ws2 := [(r0, .inl (cI, 4, .inl er)), (w0, .inl (cI, 4096, .inl wy)), (u0, .inl (cI, 12, .inl ah)), (v0, .inl (cI, 10, .inl tt)), (y0, .inl (cI, 10, .inl us)), (m0, .inr (3, [.ref n0, .ref q0, .int (nI sv), .ref r0, .ref t0, .ref w0, .ref u0, .ref v0, .ref y0, .int tm, .long (npF (mxF (mxF (nlF (mxF (mxF (meF er 4) (nw 1)) (nI nl)) nw tg nl) (nw 5)) (nI pr)) nw nl pr)])), (n0, .inl (cI, 148, .inl nw)), (t0, .inl (cI, 10, .inl tg))]) rfl rfl ?_)
              refine r_callV C (As := [.int (obF nw tg nl)]) (rest := []) (wr := [(r0, .inl (cI, 4, .inl er)), (w0, .inl (cI, 4096, .inl wy)), (u0, .inl (cI, 12, .inl ah)), (v0, .inl (cI, 10, .inl tt)), (y0, .inl (cI, 10, .inl us)), (n0, .inl (cI, 148, .inl nw)), (t0, .inl (cI, 10, .inl tg))]) (c_X3_mix l D cI cR m0 n0 q0 sv r0 t0 w0 u0 v0 y0 tm (npF (mxF (mxF (nlF (mxF (mxF (meF er 4) (nw 1)) (nI nl)) nw tg nl) (nw 5)) (nI pr)) nw nl pr) (obF nw tg nl) ) k_X3_mix rfl dX3_digest_110 q_610 q_612 q_29 ⟨nle rfl, nle rfl⟩ [5] [0, 1, 2, 3, 4, 6, 7] rfl rfl rfl rfl (by decide) 0 rfl rfl rfl (nle rfl) ⟨nle rfl, nle rfl⟩ (r_fin (st2 := []) (ws2 := [(r0, .inl (cI, 4, .inl er)), (w0, .inl (cI, 4096, .inl wy)), (u0, .inl (cI, 12, .inl ah)), (v0, .inl (cI, 10, .inl tt)), (y0, .inl (cI, 10, .inl us)), (n0, .inl (cI, 148, .inl nw)), (t0, .inl (cI, 10, .inl tg)), (m0, .inr (3, [.ref n0, .ref q0, .int (nI sv), .ref r0, .ref t0, .ref w0, .ref u0, .ref v0, .ref y0, .int tm, .long (mxF (npF (mxF (mxF (nlF (mxF (mxF (meF er 4) (nw 1)) (nI nl)) nw tg nl) (nw 5)) (nI pr)) nw nl pr) (obF nw tg nl))]))]) rfl rfl ?_)
              refine r_aload_n C dX3_digest_113 1 rfl ?_
              refine r_callV C (As := []) (rest := []) (wr := [(r0, .inl (cI, 4, .inl er)), (w0, .inl (cI, 4096, .inl wy)), (u0, .inl (cI, 12, .inl ah)), (v0, .inl (cI, 10, .inl tt)), (y0, .inl (cI, 10, .inl us))]) (c_X3_blocked l D cI cR m0 n0 q0 sv r0 t0 w0 u0 v0 y0 tm (mxF (npF (mxF (mxF (nlF (mxF (mxF (meF er 4) (nw 1)) (nI nl)) nw tg nl) (nw 5)) (nI pr)) nw nl pr) (obF nw tg nl)) nw tg nl (by first | assumption | omega) (by first | assumption | omega)) k_X3_blocked rfl dX3_digest_114 q_557 q_559 q_21 ⟨nle rfl, nle rfl⟩ [7, 5, 6] [0, 1, 2, 3, 4] rfl rfl rfl rfl (by decide) 0 rfl rfl rfl (nle rfl) ⟨nle rfl, nle rfl⟩ (r_fin (st2 := [.int (obF nw tg nl)]) (ws2 := [(r0, .inl (cI, 4, .inl er)), (w0, .inl (cI, 4096, .inl wy)), (u0, .inl (cI, 12, .inl ah)), (v0, .inl (cI, 10, .inl tt)), (y0, .inl (cI, 10, .inl us)), (m0, .inr (3, [.ref n0, .ref q0, .int (nI sv), .ref r0, .ref t0, .ref w0, .ref u0, .ref v0, .ref y0, .int tm, .long (mxF (npF (mxF (mxF (nlF (mxF (mxF (meF er 4) (nw 1)) (nI nl)) nw tg nl) (nw 5)) (nI pr)) nw nl pr) (obF nw tg nl))])), (n0, .inl (cI, 148, .inl nw)), (t0, .inl (cI, 10, .inl tg))]) rfl rfl ?_)
              refine r_if_ne C dX3_digest_117 (tgt := 124) (by decide) (fun c_5 => ?_) (fun c_5 => ?_)
              · refine r_aload_n C dX3_digest_124 1 rfl ?_
                refine r_aload_n C dX3_digest_125 1 rfl ?_
                refine r_iconst C dX3_digest_126 (v := 1) (by decide) ?_
                refine r_aload_n C dX3_digest_127 1 rfl ?_
                refine r_get C clX3 dX3_digest_128 5 0 rfl (by decide) q_399 rfl ?_
                refine r_iconst C dX3_digest_131 (v := 4) (by decide) ?_
                refine r_iald C dX3_digest_132 6 rfl 4 rfl (by decide) (by decide) ?_
                refine r_top (b := nI pr) e4 ?_
                refine r_ishl C dX3_digest_133 ?_
                refine r_iconst C dX3_digest_134 (v := 1) (by decide) ?_
                refine r_isub C dX3_digest_135 ?_
                refine r_top (b := nI (2 ^ pr - 1)) (ab_nat hpr) ?_
                refine r_callV C (As := [.int (nI (2 ^ pr - 1))]) (rest := [.ref m0]) (wr := [(r0, .inl (cI, 4, .inl er)), (v0, .inl (cI, 10, .inl tt)), (y0, .inl (cI, 10, .inl us)), (t0, .inl (cI, 10, .inl tg))]) (c_X3_ordersOf l D cI cR m0 n0 q0 sv r0 t0 w0 u0 v0 y0 tm (mxF (npF (mxF (mxF (nlF (mxF (mxF (meF er 4) (nw 1)) (nI nl)) nw tg nl) (nw 5)) (nI pr)) nw nl pr) (obF nw tg nl)) nw wy ah pr (2 ^ pr - 1) (by first | assumption | omega) (by first | assumption | omega) (p2_lt hpr)) k_X3_ordersOf rfl dX3_digest_136 q_541 q_543 q_20 ⟨nle rfl, nle rfl⟩ [5, 6, 1, 2] [0, 3, 4, 7] rfl rfl rfl rfl (by decide) 0 rfl rfl rfl (nle rfl) ⟨nle rfl, nle rfl⟩ (r_fin (st2 := [.int (wyO (ahO ah nw pr pr) wy pr (2 ^ pr - 1) (2 ^ pr - 1)), .ref m0]) (ws2 := [(r0, .inl (cI, 4, .inl er)), (v0, .inl (cI, 10, .inl tt)), (y0, .inl (cI, 10, .inl us)), (t0, .inl (cI, 10, .inl tg)), (m0, .inr (3, [.ref n0, .ref q0, .int (nI sv), .ref r0, .ref t0, .ref w0, .ref u0, .ref v0, .ref y0, .int tm, .long (mxF (npF (mxF (mxF (nlF (mxF (mxF (meF er 4) (nw 1)) (nI nl)) nw tg nl) (nw 5)) (nI pr)) nw nl pr) (obF nw tg nl))])), (n0, .inl (cI, 148, .inl nw)), (w0, .inl (cI, 4096, .inl (wyO (ahO ah nw pr pr) wy pr (2 ^ pr - 1)))), (u0, .inl (cI, 12, .inl (ahO ah nw pr pr)))]) rfl rfl ?_)
                refine r_callV C (As := [.int (wyO (ahO ah nw pr pr) wy pr (2 ^ pr - 1) (2 ^ pr - 1))]) (rest := []) (wr := [(r0, .inl (cI, 4, .inl er)), (v0, .inl (cI, 10, .inl tt)), (y0, .inl (cI, 10, .inl us)), (t0, .inl (cI, 10, .inl tg)), (n0, .inl (cI, 148, .inl nw)), (w0, .inl (cI, 4096, .inl (wyO (ahO ah nw pr pr) wy pr (2 ^ pr - 1)))), (u0, .inl (cI, 12, .inl (ahO ah nw pr pr)))]) (c_X3_mix l D cI cR m0 n0 q0 sv r0 t0 w0 u0 v0 y0 tm (mxF (npF (mxF (mxF (nlF (mxF (mxF (meF er 4) (nw 1)) (nI nl)) nw tg nl) (nw 5)) (nI pr)) nw nl pr) (obF nw tg nl)) (wyO (ahO ah nw pr pr) wy pr (2 ^ pr - 1) (2 ^ pr - 1)) ) k_X3_mix rfl dX3_digest_139 q_610 q_612 q_29 ⟨nle rfl, nle rfl⟩ [4] [0, 1, 2, 3, 5, 6, 7] rfl rfl rfl rfl (by decide) 0 rfl rfl rfl (nle rfl) ⟨nle rfl, nle rfl⟩ (r_fin (st2 := []) (ws2 := [(r0, .inl (cI, 4, .inl er)), (v0, .inl (cI, 10, .inl tt)), (y0, .inl (cI, 10, .inl us)), (t0, .inl (cI, 10, .inl tg)), (n0, .inl (cI, 148, .inl nw)), (w0, .inl (cI, 4096, .inl (wyO (ahO ah nw pr pr) wy pr (2 ^ pr - 1)))), (u0, .inl (cI, 12, .inl (ahO ah nw pr pr))), (m0, .inr (3, [.ref n0, .ref q0, .int (nI sv), .ref r0, .ref t0, .ref w0, .ref u0, .ref v0, .ref y0, .int tm, .long (mxF (mxF (npF (mxF (mxF (nlF (mxF (mxF (meF er 4) (nw 1)) (nI nl)) nw tg nl) (nw 5)) (nI pr)) nw nl pr) (obF nw tg nl)) (wyO (ahO ah nw pr pr) wy pr (2 ^ pr - 1) (2 ^ pr - 1)))]))]) rfl rfl ?_)
                refine r_aload_n C dX3_digest_142 1 rfl ?_
                refine r_aload_n C dX3_digest_143 1 rfl ?_
                refine r_get C clX3 dX3_digest_144 7 2 rfl (by decide) q_401 rfl ?_
                refine r_callV C (As := [.int (nI sv)]) (rest := []) (wr := [(r0, .inl (cI, 4, .inl er)), (v0, .inl (cI, 10, .inl tt)), (y0, .inl (cI, 10, .inl us)), (t0, .inl (cI, 10, .inl tg)), (n0, .inl (cI, 148, .inl nw)), (w0, .inl (cI, 4096, .inl (wyO (ahO ah nw pr pr) wy pr (2 ^ pr - 1)))), (u0, .inl (cI, 12, .inl (ahO ah nw pr pr)))]) (c_X3_mix l D cI cR m0 n0 q0 sv r0 t0 w0 u0 v0 y0 tm (mxF (mxF (npF (mxF (mxF (nlF (mxF (mxF (meF er 4) (nw 1)) (nI nl)) nw tg nl) (nw 5)) (nI pr)) nw nl pr) (obF nw tg nl)) (wyO (ahO ah nw pr pr) wy pr (2 ^ pr - 1) (2 ^ pr - 1))) (nI sv) ) k_X3_mix rfl dX3_digest_147 q_610 q_612 q_29 ⟨nle rfl, nle rfl⟩ [7] [0, 1, 2, 3, 4, 5, 6] rfl rfl rfl rfl (by decide) 0 rfl rfl rfl (nle rfl) ⟨nle rfl, nle rfl⟩ (r_fin (st2 := []) (ws2 := [(r0, .inl (cI, 4, .inl er)), (v0, .inl (cI, 10, .inl tt)), (y0, .inl (cI, 10, .inl us)), (t0, .inl (cI, 10, .inl tg)), (n0, .inl (cI, 148, .inl nw)), (w0, .inl (cI, 4096, .inl (wyO (ahO ah nw pr pr) wy pr (2 ^ pr - 1)))), (u0, .inl (cI, 12, .inl (ahO ah nw pr pr))), (m0, .inr (3, [.ref n0, .ref q0, .int (nI sv), .ref r0, .ref t0, .ref w0, .ref u0, .ref v0, .ref y0, .int tm, .long (mxF (mxF (mxF (npF (mxF (mxF (nlF (mxF (mxF (meF er 4) (nw 1)) (nI nl)) nw tg nl) (nw 5)) (nI pr)) nw nl pr) (obF nw tg nl)) (wyO (ahO ah nw pr pr) wy pr (2 ^ pr - 1) (2 ^ pr - 1))) (nI sv))]))]) rfl rfl ?_)
                refine r_aload_n C dX3_digest_150 1 rfl ?_
                refine r_get C clX3 dX3_digest_151 7 10 rfl (by decide) q_409 rfl ?_
                refine r_ws [7, 4, 3, 0, 5, 6, 1, 2] (ws2 := [(m0, .inr (3, [.ref n0, .ref q0, .int (nI sv), .ref r0, .ref t0, .ref w0, .ref u0, .ref v0, .ref y0, .int tm, .long (mxF (mxF (mxF (npF (mxF (mxF (nlF (mxF (mxF (meF er 4) (nw 1)) (nI nl)) nw tg nl) (nw 5)) (nI pr)) nw nl pr) (obF nw tg nl)) (wyO (ahO ah nw pr pr) wy pr (2 ^ pr - 1) (2 ^ pr - 1))) (nI sv))])), (n0, .inl (cI, 148, .inl nw)), (t0, .inl (cI, 10, .inl tg)), (r0, .inl (cI, 4, .inl er)), (w0, .inl (cI, 4096, .inl (wyO (ahO ah nw pr pr) wy pr (2 ^ pr - 1)))), (u0, .inl (cI, 12, .inl (ahO ah nw pr pr))), (v0, .inl (cI, 10, .inl tt)), (y0, .inl (cI, 10, .inl us))]) rfl rfl ?_
                exact r_lret C E dX3_digest_154 (nle rfl) (nle rfl) ⟨rfl, rfl⟩
              · exact absurd c_5 hb
            · have n_4 := mt (nI_leI (a := nl) (b := i) (by omega) (by omega)).mpr c_3
              refine r_aload_n C dX3_digest_62 1 rfl ?_
              refine r_aload_n C dX3_digest_63 1 rfl ?_
              refine r_get C clX3 dX3_digest_64 7 0 rfl (by decide) q_399 rfl ?_
              refine r_bipush C dX3_digest_67 (v := 6) (by decide) ?_
              refine r_iload_n C dX3_digest_69 0 rfl ?_
              refine r_iadd C dX3_digest_70 ?_
              refine r_top (b := nI (6 + i)) (nA rfl rfl) ?_
              refine r_iald C dX3_digest_71 0 rfl (6 + i) rfl (by omega) (by decide) ?_
              refine r_callV C (As := [.int (nw (6 + i))]) (rest := []) (wr := [(n0, .inl (cI, 148, .inl nw)), (t0, .inl (cI, 10, .inl tg)), (r0, .inl (cI, 4, .inl er)), (w0, .inl (cI, 4096, .inl wy)), (u0, .inl (cI, 12, .inl ah)), (v0, .inl (cI, 10, .inl tt)), (y0, .inl (cI, 10, .inl us))]) (c_X3_mix l D cI cR m0 n0 q0 sv r0 t0 w0 u0 v0 y0 tm hh (nw (6 + i)) ) k_X3_mix rfl dX3_digest_72 q_610 q_612 q_29 ⟨nle rfl, nle rfl⟩ [7] [0, 1, 2, 3, 4, 5, 6] rfl rfl rfl rfl (by decide) 0 rfl rfl rfl (nle rfl) ⟨nle rfl, nle rfl⟩ (r_fin (st2 := []) (ws2 := [(n0, .inl (cI, 148, .inl nw)), (t0, .inl (cI, 10, .inl tg)), (r0, .inl (cI, 4, .inl er)), (w0, .inl (cI, 4096, .inl wy)), (u0, .inl (cI, 12, .inl ah)), (v0, .inl (cI, 10, .inl tt)), (y0, .inl (cI, 10, .inl us)), (m0, .inr (3, [.ref n0, .ref q0, .int (nI sv), .ref r0, .ref t0, .ref w0, .ref u0, .ref v0, .ref y0, .int tm, .long (mxF hh (nw (6 + i)))]))]) rfl rfl ?_)
              refine r_aload_n C dX3_digest_75 1 rfl ?_
              refine r_aload_n C dX3_digest_76 1 rfl ?_
              refine r_get C clX3 dX3_digest_77 7 4 rfl (by decide) q_403 rfl ?_
              refine r_iload_n C dX3_digest_80 0 rfl ?_
              refine r_iald C dX3_digest_81 1 rfl i rfl (by omega) (by decide) ?_
              refine r_callV C (As := [.int (tg i)]) (rest := []) (wr := [(n0, .inl (cI, 148, .inl nw)), (t0, .inl (cI, 10, .inl tg)), (r0, .inl (cI, 4, .inl er)), (w0, .inl (cI, 4096, .inl wy)), (u0, .inl (cI, 12, .inl ah)), (v0, .inl (cI, 10, .inl tt)), (y0, .inl (cI, 10, .inl us))]) (c_X3_mix l D cI cR m0 n0 q0 sv r0 t0 w0 u0 v0 y0 tm (mxF hh (nw (6 + i))) (tg i) ) k_X3_mix rfl dX3_digest_82 q_610 q_612 q_29 ⟨nle rfl, nle rfl⟩ [7] [0, 1, 2, 3, 4, 5, 6] rfl rfl rfl rfl (by decide) 0 rfl rfl rfl (nle rfl) ⟨nle rfl, nle rfl⟩ (r_fin (st2 := []) (ws2 := [(n0, .inl (cI, 148, .inl nw)), (t0, .inl (cI, 10, .inl tg)), (r0, .inl (cI, 4, .inl er)), (w0, .inl (cI, 4096, .inl wy)), (u0, .inl (cI, 12, .inl ah)), (v0, .inl (cI, 10, .inl tt)), (y0, .inl (cI, 10, .inl us)), (m0, .inr (3, [.ref n0, .ref q0, .int (nI sv), .ref r0, .ref t0, .ref w0, .ref u0, .ref v0, .ref y0, .int tm, .long (mxF (mxF hh (nw (6 + i))) (tg i))]))]) rfl rfl ?_)
              refine r_iinc C dX3_digest_85 0 rfl (v := nI (i + 1)) (nI_1 _) (by decide) (lv2 := [(1, .int (nI (i + 1))), (0, .ref m0)]) rfl ?_
              refine r_goto C dX3_digest_88 (tgt := 52) (by decide) ?_
              exact ih_52 (i + 1) (by omega) (by omega) _ (by subst e_hh; rfl) 
        exact L_52 (nl + 1) 0 (by omega) (by omega) _ rfl 
      · have n_2 := mt (nI_leI (a := 4) (b := i) (by omega) (by omega)).mpr c_1
        refine r_aload_n C dX3_digest_14 1 rfl ?_
        refine r_aload_n C dX3_digest_15 1 rfl ?_
        refine r_get C clX3 dX3_digest_16 0 3 rfl (by decide) q_402 rfl ?_
        refine r_iload_n C dX3_digest_19 0 rfl ?_
        refine r_iald C dX3_digest_20 3 rfl i rfl (by omega) (by decide) ?_
        refine r_callV C (As := [.int (er i)]) (rest := []) (wr := [(n0, .inl (cI, 148, .inl nw)), (t0, .inl (cI, 10, .inl tg)), (r0, .inl (cI, 4, .inl er)), (w0, .inl (cI, 4096, .inl wy)), (u0, .inl (cI, 12, .inl ah)), (v0, .inl (cI, 10, .inl tt)), (y0, .inl (cI, 10, .inl us))]) (c_X3_mix l D cI cR m0 n0 q0 sv r0 t0 w0 u0 v0 y0 tm hh (er i) ) k_X3_mix rfl dX3_digest_21 q_610 q_612 q_29 ⟨nle rfl, nle rfl⟩ [0] [1, 2, 3, 4, 5, 6, 7] rfl rfl rfl rfl (by decide) 0 rfl rfl rfl (nle rfl) ⟨nle rfl, nle rfl⟩ (r_fin (st2 := []) (ws2 := [(n0, .inl (cI, 148, .inl nw)), (t0, .inl (cI, 10, .inl tg)), (r0, .inl (cI, 4, .inl er)), (w0, .inl (cI, 4096, .inl wy)), (u0, .inl (cI, 12, .inl ah)), (v0, .inl (cI, 10, .inl tt)), (y0, .inl (cI, 10, .inl us)), (m0, .inr (3, [.ref n0, .ref q0, .int (nI sv), .ref r0, .ref t0, .ref w0, .ref u0, .ref v0, .ref y0, .int tm, .long (mxF hh (er i))]))]) rfl rfl ?_)
        refine r_iinc C dX3_digest_24 0 rfl (v := nI (i + 1)) (nI_1 _) (by decide) (lv2 := [(1, .int (nI (i + 1))), (0, .ref m0)]) rfl ?_
        refine r_goto C dX3_digest_27 (tgt := 9) (by decide) ?_
        refine r_ws [7, 0, 1, 2, 3, 4, 5, 6] (ws2 := [(m0, .inr (3, [.ref n0, .ref q0, .int (nI sv), .ref r0, .ref t0, .ref w0, .ref u0, .ref v0, .ref y0, .int tm, .long (mxF hh (er i))])), (n0, .inl (cI, 148, .inl nw)), (t0, .inl (cI, 10, .inl tg)), (r0, .inl (cI, 4, .inl er)), (w0, .inl (cI, 4096, .inl wy)), (u0, .inl (cI, 12, .inl ah)), (v0, .inl (cI, 10, .inl tt)), (y0, .inl (cI, 10, .inl us))]) rfl rfl ?_
        exact ih_9 (i + 1) (by omega) (by omega) _ (by subst e_hh; rfl) 
  exact L_9 (4 + 1) 0 (by omega) (by omega) _ rfl 
set_option maxHeartbeats 4000000 in
set_option maxRecDepth 100000 in
/-- digest() -/
theorem c_X3_digest_ok (l : Launch) (D : va_G) (cI cR : ClassId) (m0 : Nat) (n0 : Nat) (q0 : Nat) (sv : Nat) (r0 : Nat) (t0 : Nat) (w0 : Nat) (u0 : Nat) (v0 : Nat) (y0 : Nat) (tm : Int32) (hs : Int64) (nw : Nat → Int32) (tg : Nat → Int32) (er : Nat → Int32) (wy : Nat → Int32) (ah : Nat → Int32) (tt : Nat → Int32) (us : Nat → Int32) (nl : Nat) (pr : Nat) (e0 : nw 0 = nI nl) (e4 : nw 4 = nI pr) (hnl : nl ≤ 10) (hpr : pr ≤ 12) (hb : obF nw tg nl = 0) : Ctr l D cI cR yX3_digest cX3_digest 2 ((some .long)) ({ frames := 5, cells := 0, slots := 0, locals := 109 }) [.ref m0] [(m0, .inr (3, [.ref n0, .ref q0, .int (nI sv), .ref r0, .ref t0, .ref w0, .ref u0, .ref v0, .ref y0, .int tm, .long hs])), (n0, .inl (cI, 148, .inl nw)), (t0, .inl (cI, 10, .inl tg)), (r0, .inl (cI, 4, .inl er)), (w0, .inl (cI, 4096, .inl wy)), (u0, .inl (cI, 12, .inl ah)), (v0, .inl (cI, 10, .inl tt)), (y0, .inl (cI, 10, .inl us))] (rP (some (.long (mxF (mxF (nqF (mxF (mxF (npF (mxF (mxF (nlF (mxF (mxF (meF er 4) (nw 1)) (nI nl)) nw tg nl) (nw 5)) (nI pr)) nw nl pr) (obF nw tg nl)) (nI (tmF nw tg tt nl))) (usW nw tg (ttF nw tg tt nl) (tmF nw tg tt nl) us nl) (ttF nw tg tt nl) nl (tmF nw tg tt nl)) (wyO (ahO ah nw pr pr) wy pr (2 ^ pr - 1) (2 ^ pr - 1))) (nI sv)))) [(m0, .inr (3, [.ref n0, .ref q0, .int (nI sv), .ref r0, .ref t0, .ref w0, .ref u0, .ref v0, .ref y0, .int (nI (tmF nw tg tt nl)), .long (mxF (mxF (nqF (mxF (mxF (npF (mxF (mxF (nlF (mxF (mxF (meF er 4) (nw 1)) (nI nl)) nw tg nl) (nw 5)) (nI pr)) nw nl pr) (obF nw tg nl)) (nI (tmF nw tg tt nl))) (usW nw tg (ttF nw tg tt nl) (tmF nw tg tt nl) us nl) (ttF nw tg tt nl) nl (tmF nw tg tt nl)) (wyO (ahO ah nw pr pr) wy pr (2 ^ pr - 1) (2 ^ pr - 1))) (nI sv))])), (n0, .inl (cI, 148, .inl nw)), (t0, .inl (cI, 10, .inl tg)), (r0, .inl (cI, 4, .inl er)), (w0, .inl (cI, 4096, .inl (wyO (ahO ah nw pr pr) wy pr (2 ^ pr - 1)))), (u0, .inl (cI, 12, .inl (ahO ah nw pr pr))), (v0, .inl (cI, 10, .inl (ttF nw tg tt nl))), (y0, .inl (cI, 10, .inl (usW nw tg (ttF nw tg tt nl) (tmF nw tg tt nl) us nl)))]) := by
  refine ctr_of (lv0 := [(0, .ref m0)]) (by decide) (nle rfl) rfl (fun G C E => ?_)
  refine r_aload_n C dX3_digest_0 0 rfl ?_
  refine r_ldc2 C dX3_digest_1 (v := 2689) q_609 ?_
  refine r_put C clX3 dX3_digest_4 0 10 rfl (by decide) q_409 rfl rfl rfl (nle rfl) (ws2 := [(m0, .inr (3, [.ref n0, .ref q0, .int (nI sv), .ref r0, .ref t0, .ref w0, .ref u0, .ref v0, .ref y0, .int tm, .long (2689 : Int64)])), (n0, .inl (cI, 148, .inl nw)), (t0, .inl (cI, 10, .inl tg)), (r0, .inl (cI, 4, .inl er)), (w0, .inl (cI, 4096, .inl wy)), (u0, .inl (cI, 12, .inl ah)), (v0, .inl (cI, 10, .inl tt)), (y0, .inl (cI, 10, .inl us))]) rfl ?_
  refine r_iconst C dX3_digest_7 (v := 0) (by decide) ?_
  refine r_istore_n C dX3_digest_8 (lv2 := [(1, .int 0), (0, .ref m0)]) (by decide) rfl ?_
  have L_9 : ∀ (z i : Nat), i ≤ 4 → 4 < i + z → ∀ (hh : Int64), hh = meF er i → Wr G 0 0 9 [(1, .int (nI i)), (0, .ref m0)] [] [(m0, .inr (3, [.ref n0, .ref q0, .int (nI sv), .ref r0, .ref t0, .ref w0, .ref u0, .ref v0, .ref y0, .int tm, .long hh])), (n0, .inl (cI, 148, .inl nw)), (t0, .inl (cI, 10, .inl tg)), (r0, .inl (cI, 4, .inl er)), (w0, .inl (cI, 4096, .inl wy)), (u0, .inl (cI, 12, .inl ah)), (v0, .inl (cI, 10, .inl tt)), (y0, .inl (cI, 10, .inl us))] := by
    intro z
    induction z with
    | zero => intro i h1 h2; exact absurd h2 (by omega)
    | succ z ih_9 =>
      intro i hi_9 hz_9 hh e_hh
      refine r_iload_n C dX3_digest_9 0 rfl ?_
      refine r_iconst C dX3_digest_10 (v := 4) (by decide) ?_
      refine r_icmp_ge C dX3_digest_11 (tgt := 30) (by decide) (fun c_1 => ?_) (fun c_1 => ?_)
      · have n_2 := (nI_leI (a := 4) (b := i) (by omega) (by omega)).mp c_1
        have ex_9 : i = 4 := by omega
        subst ex_9
        subst e_hh
        refine r_aload_n C dX3_digest_30 1 rfl ?_
        refine r_aload_n C dX3_digest_31 1 rfl ?_
        refine r_get C clX3 dX3_digest_32 0 0 rfl (by decide) q_399 rfl ?_
        refine r_iconst C dX3_digest_35 (v := 1) (by decide) ?_
        refine r_iald C dX3_digest_36 1 rfl 1 rfl (by decide) (by decide) ?_
        refine r_callV C (As := [.int (nw 1)]) (rest := []) (wr := [(n0, .inl (cI, 148, .inl nw)), (t0, .inl (cI, 10, .inl tg)), (r0, .inl (cI, 4, .inl er)), (w0, .inl (cI, 4096, .inl wy)), (u0, .inl (cI, 12, .inl ah)), (v0, .inl (cI, 10, .inl tt)), (y0, .inl (cI, 10, .inl us))]) (c_X3_mix l D cI cR m0 n0 q0 sv r0 t0 w0 u0 v0 y0 tm (meF er 4) (nw 1) ) k_X3_mix rfl dX3_digest_37 q_610 q_612 q_29 ⟨nle rfl, nle rfl⟩ [0] [1, 2, 3, 4, 5, 6, 7] rfl rfl rfl rfl (by decide) 0 rfl rfl rfl (nle rfl) ⟨nle rfl, nle rfl⟩ (r_fin (st2 := []) (ws2 := [(n0, .inl (cI, 148, .inl nw)), (t0, .inl (cI, 10, .inl tg)), (r0, .inl (cI, 4, .inl er)), (w0, .inl (cI, 4096, .inl wy)), (u0, .inl (cI, 12, .inl ah)), (v0, .inl (cI, 10, .inl tt)), (y0, .inl (cI, 10, .inl us)), (m0, .inr (3, [.ref n0, .ref q0, .int (nI sv), .ref r0, .ref t0, .ref w0, .ref u0, .ref v0, .ref y0, .int tm, .long (mxF (meF er 4) (nw 1))]))]) rfl rfl ?_)
        refine r_aload_n C dX3_digest_40 1 rfl ?_
        refine r_aload_n C dX3_digest_41 1 rfl ?_
        refine r_get C clX3 dX3_digest_42 7 0 rfl (by decide) q_399 rfl ?_
        refine r_iconst C dX3_digest_45 (v := 0) (by decide) ?_
        refine r_iald C dX3_digest_46 0 rfl 0 rfl (by decide) (by decide) ?_
        refine r_top (b := nI nl) e0 ?_
        refine r_callV C (As := [.int (nI nl)]) (rest := []) (wr := [(n0, .inl (cI, 148, .inl nw)), (t0, .inl (cI, 10, .inl tg)), (r0, .inl (cI, 4, .inl er)), (w0, .inl (cI, 4096, .inl wy)), (u0, .inl (cI, 12, .inl ah)), (v0, .inl (cI, 10, .inl tt)), (y0, .inl (cI, 10, .inl us))]) (c_X3_mix l D cI cR m0 n0 q0 sv r0 t0 w0 u0 v0 y0 tm (mxF (meF er 4) (nw 1)) (nI nl) ) k_X3_mix rfl dX3_digest_47 q_610 q_612 q_29 ⟨nle rfl, nle rfl⟩ [7] [0, 1, 2, 3, 4, 5, 6] rfl rfl rfl rfl (by decide) 0 rfl rfl rfl (nle rfl) ⟨nle rfl, nle rfl⟩ (r_fin (st2 := []) (ws2 := [(n0, .inl (cI, 148, .inl nw)), (t0, .inl (cI, 10, .inl tg)), (r0, .inl (cI, 4, .inl er)), (w0, .inl (cI, 4096, .inl wy)), (u0, .inl (cI, 12, .inl ah)), (v0, .inl (cI, 10, .inl tt)), (y0, .inl (cI, 10, .inl us)), (m0, .inr (3, [.ref n0, .ref q0, .int (nI sv), .ref r0, .ref t0, .ref w0, .ref u0, .ref v0, .ref y0, .int tm, .long (mxF (mxF (meF er 4) (nw 1)) (nI nl))]))]) rfl rfl ?_)
        refine r_iconst C dX3_digest_50 (v := 0) (by decide) ?_
        refine r_istore_n C dX3_digest_51 (lv2 := [(1, .int 0), (0, .ref m0)]) (by decide) rfl ?_
        have L_52 : ∀ (z i : Nat), i ≤ nl → nl < i + z → ∀ (hh : Int64), hh = nlF (mxF (mxF (meF er 4) (nw 1)) (nI nl)) nw tg i → Wr G 0 0 52 [(1, .int (nI i)), (0, .ref m0)] [] [(n0, .inl (cI, 148, .inl nw)), (t0, .inl (cI, 10, .inl tg)), (r0, .inl (cI, 4, .inl er)), (w0, .inl (cI, 4096, .inl wy)), (u0, .inl (cI, 12, .inl ah)), (v0, .inl (cI, 10, .inl tt)), (y0, .inl (cI, 10, .inl us)), (m0, .inr (3, [.ref n0, .ref q0, .int (nI sv), .ref r0, .ref t0, .ref w0, .ref u0, .ref v0, .ref y0, .int tm, .long hh]))] := by
          intro z
          induction z with
          | zero => intro i h1 h2; exact absurd h2 (by omega)
          | succ z ih_52 =>
            intro i hi_52 hz_52 hh e_hh
            refine r_iload_n C dX3_digest_52 0 rfl ?_
            refine r_aload_n C dX3_digest_53 1 rfl ?_
            refine r_get C clX3 dX3_digest_54 7 0 rfl (by decide) q_399 rfl ?_
            refine r_iconst C dX3_digest_57 (v := 0) (by decide) ?_
            refine r_iald C dX3_digest_58 0 rfl 0 rfl (by decide) (by decide) ?_
            refine r_top (b := nI nl) e0 ?_
            refine r_icmp_ge C dX3_digest_59 (tgt := 91) (by decide) (fun c_3 => ?_) (fun c_3 => ?_)
            · have n_4 := (nI_leI (a := nl) (b := i) (by omega) (by omega)).mp c_3
              have ex_52 : nl = i := by omega
              subst ex_52
              subst e_hh
              refine r_aload_n C dX3_digest_91 1 rfl ?_
              refine r_aload_n C dX3_digest_92 1 rfl ?_
              refine r_get C clX3 dX3_digest_93 7 0 rfl (by decide) q_399 rfl ?_
              refine r_iconst C dX3_digest_96 (v := 5) (by decide) ?_
              refine r_iald C dX3_digest_97 0 rfl 5 rfl (by decide) (by decide) ?_
              refine r_callV C (As := [.int (nw 5)]) (rest := []) (wr := [(n0, .inl (cI, 148, .inl nw)), (t0, .inl (cI, 10, .inl tg)), (r0, .inl (cI, 4, .inl er)), (w0, .inl (cI, 4096, .inl wy)), (u0, .inl (cI, 12, .inl ah)), (v0, .inl (cI, 10, .inl tt)), (y0, .inl (cI, 10, .inl us))]) (c_X3_mix l D cI cR m0 n0 q0 sv r0 t0 w0 u0 v0 y0 tm (nlF (mxF (mxF (meF er 4) (nw 1)) (nI nl)) nw tg nl) (nw 5) ) k_X3_mix rfl dX3_digest_98 q_610 q_612 q_29 ⟨nle rfl, nle rfl⟩ [7] [0, 1, 2, 3, 4, 5, 6] rfl rfl rfl rfl (by decide) 0 rfl rfl rfl (nle rfl) ⟨nle rfl, nle rfl⟩ (r_fin (st2 := []) (ws2 := [(n0, .inl (cI, 148, .inl nw)), (t0, .inl (cI, 10, .inl tg)), (r0, .inl (cI, 4, .inl er)), (w0, .inl (cI, 4096, .inl wy)), (u0, .inl (cI, 12, .inl ah)), (v0, .inl (cI, 10, .inl tt)), (y0, .inl (cI, 10, .inl us)), (m0, .inr (3, [.ref n0, .ref q0, .int (nI sv), .ref r0, .ref t0, .ref w0, .ref u0, .ref v0, .ref y0, .int tm, .long (mxF (nlF (mxF (mxF (meF er 4) (nw 1)) (nI nl)) nw tg nl) (nw 5))]))]) rfl rfl ?_)
              refine r_aload_n C dX3_digest_101 1 rfl ?_
              refine r_callV C (As := []) (rest := []) (wr := [(t0, .inl (cI, 10, .inl tg)), (r0, .inl (cI, 4, .inl er)), (w0, .inl (cI, 4096, .inl wy)), (u0, .inl (cI, 12, .inl ah)), (v0, .inl (cI, 10, .inl tt)), (y0, .inl (cI, 10, .inl us))]) (c_X3_mixPrints l D cI cR m0 n0 q0 sv r0 t0 w0 u0 v0 y0 tm (mxF (nlF (mxF (mxF (meF er 4) (nw 1)) (nI nl)) nw tg nl) (nw 5)) nw nl pr (by first | assumption | omega) (by first | assumption | omega) (by first | assumption | omega) (by first | assumption | omega)) k_X3_mixPrints rfl dX3_digest_102 q_615 q_617 q_30 ⟨nle rfl, nle rfl⟩ [7, 0] [1, 2, 3, 4, 5, 6] rfl rfl rfl rfl (by decide) 0 rfl rfl rfl (nle rfl) ⟨nle rfl, nle rfl⟩ (r_fin (st2 := []) (ws2 := [(t0, .inl (cI, 10, .inl tg)), (r0, .inl (cI, 4, .inl er)), (w0, .inl (cI, 4096, .inl wy)), (u0, .inl (cI, 12, .inl ah)), (v0, .inl (cI, 10, .inl tt)), (y0, .inl (cI, 10, .inl us)), (m0, .inr (3, [.ref n0, .ref q0, .int (nI sv), .ref r0, .ref t0, .ref w0, .ref u0, .ref v0, .ref y0, .int tm, .long (npF (mxF (mxF (nlF (mxF (mxF (meF er 4) (nw 1)) (nI nl)) nw tg nl) (nw 5)) (nI pr)) nw nl pr)])), (n0, .inl (cI, 148, .inl nw))]) rfl rfl ?_)
              refine r_aload_n C dX3_digest_105 1 rfl ?_
              refine r_aload_n C dX3_digest_106 1 rfl ?_
              refine r_callV C (As := []) (rest := [.ref m0]) (wr := [(r0, .inl (cI, 4, .inl er)), (w0, .inl (cI, 4096, .inl wy)), (u0, .inl (cI, 12, .inl ah)), (v0, .inl (cI, 10, .inl tt)), (y0, .inl (cI, 10, .inl us))]) (c_X3_blocked l D cI cR m0 n0 q0 sv r0 t0 w0 u0 v0 y0 tm (npF (mxF (mxF (nlF (mxF (mxF (meF er 4) (nw 1)) (nI nl)) nw tg nl) (nw 5)) (nI pr)) nw nl pr) nw tg nl (by first | assumption | omega) (by first | assumption | omega)) k_X3_blocked rfl dX3_digest_107 q_557 q_559 q_21 ⟨nle rfl, nle rfl⟩ [6, 7, 0] [1, 2, 3, 4, 5] rfl rfl rfl rfl (by decide) 0 rfl rfl rfl (nle rfl) ⟨nle rfl, nle rfl⟩ (r_fin (st2 := [.int (obF nw tg nl), .ref m0]) (ws2 := [(r0, .inl (cI, 4, .inl er)), (w0, .inl (cI, 4096, .inl wy)), (u0, .inl (cI, 12, .inl ah)), (v0, .inl (cI, 10, .inl tt)), (y0, .inl (cI, 10, .inl us)), (m0, .inr (3, [.ref n0, .ref q0, .int (nI sv), .ref r0, .ref t0, .ref w0, .ref u0, .ref v0, .ref y0, .int tm, .long (npF (mxF (mxF (nlF (mxF (mxF (meF er 4) (nw 1)) (nI nl)) nw tg nl) (nw 5)) (nI pr)) nw nl pr)])), (n0, .inl (cI, 148, .inl nw)), (t0, .inl (cI, 10, .inl tg))]) rfl rfl ?_)
              refine r_callV C (As := [.int (obF nw tg nl)]) (rest := []) (wr := [(r0, .inl (cI, 4, .inl er)), (w0, .inl (cI, 4096, .inl wy)), (u0, .inl (cI, 12, .inl ah)), (v0, .inl (cI, 10, .inl tt)), (y0, .inl (cI, 10, .inl us)), (n0, .inl (cI, 148, .inl nw)), (t0, .inl (cI, 10, .inl tg))]) (c_X3_mix l D cI cR m0 n0 q0 sv r0 t0 w0 u0 v0 y0 tm (npF (mxF (mxF (nlF (mxF (mxF (meF er 4) (nw 1)) (nI nl)) nw tg nl) (nw 5)) (nI pr)) nw nl pr) (obF nw tg nl) ) k_X3_mix rfl dX3_digest_110 q_610 q_612 q_29 ⟨nle rfl, nle rfl⟩ [5] [0, 1, 2, 3, 4, 6, 7] rfl rfl rfl rfl (by decide) 0 rfl rfl rfl (nle rfl) ⟨nle rfl, nle rfl⟩ (r_fin (st2 := []) (ws2 := [(r0, .inl (cI, 4, .inl er)), (w0, .inl (cI, 4096, .inl wy)), (u0, .inl (cI, 12, .inl ah)), (v0, .inl (cI, 10, .inl tt)), (y0, .inl (cI, 10, .inl us)), (n0, .inl (cI, 148, .inl nw)), (t0, .inl (cI, 10, .inl tg)), (m0, .inr (3, [.ref n0, .ref q0, .int (nI sv), .ref r0, .ref t0, .ref w0, .ref u0, .ref v0, .ref y0, .int tm, .long (mxF (npF (mxF (mxF (nlF (mxF (mxF (meF er 4) (nw 1)) (nI nl)) nw tg nl) (nw 5)) (nI pr)) nw nl pr) (obF nw tg nl))]))]) rfl rfl ?_)
              refine r_aload_n C dX3_digest_113 1 rfl ?_
              refine r_callV C (As := []) (rest := []) (wr := [(r0, .inl (cI, 4, .inl er)), (w0, .inl (cI, 4096, .inl wy)), (u0, .inl (cI, 12, .inl ah)), (v0, .inl (cI, 10, .inl tt)), (y0, .inl (cI, 10, .inl us))]) (c_X3_blocked l D cI cR m0 n0 q0 sv r0 t0 w0 u0 v0 y0 tm (mxF (npF (mxF (mxF (nlF (mxF (mxF (meF er 4) (nw 1)) (nI nl)) nw tg nl) (nw 5)) (nI pr)) nw nl pr) (obF nw tg nl)) nw tg nl (by first | assumption | omega) (by first | assumption | omega)) k_X3_blocked rfl dX3_digest_114 q_557 q_559 q_21 ⟨nle rfl, nle rfl⟩ [7, 5, 6] [0, 1, 2, 3, 4] rfl rfl rfl rfl (by decide) 0 rfl rfl rfl (nle rfl) ⟨nle rfl, nle rfl⟩ (r_fin (st2 := [.int (obF nw tg nl)]) (ws2 := [(r0, .inl (cI, 4, .inl er)), (w0, .inl (cI, 4096, .inl wy)), (u0, .inl (cI, 12, .inl ah)), (v0, .inl (cI, 10, .inl tt)), (y0, .inl (cI, 10, .inl us)), (m0, .inr (3, [.ref n0, .ref q0, .int (nI sv), .ref r0, .ref t0, .ref w0, .ref u0, .ref v0, .ref y0, .int tm, .long (mxF (npF (mxF (mxF (nlF (mxF (mxF (meF er 4) (nw 1)) (nI nl)) nw tg nl) (nw 5)) (nI pr)) nw nl pr) (obF nw tg nl))])), (n0, .inl (cI, 148, .inl nw)), (t0, .inl (cI, 10, .inl tg))]) rfl rfl ?_)
              refine r_if_ne C dX3_digest_117 (tgt := 124) (by decide) (fun c_5 => ?_) (fun c_5 => ?_)
              · exact absurd hb c_5
              · refine r_aload_n C dX3_digest_120 1 rfl ?_
                refine r_callV C (As := []) (rest := []) (wr := [(r0, .inl (cI, 4, .inl er)), (w0, .inl (cI, 4096, .inl wy)), (u0, .inl (cI, 12, .inl ah))]) (c_X3_mixPlan l D cI cR m0 n0 q0 sv r0 t0 w0 u0 v0 y0 tm (mxF (npF (mxF (mxF (nlF (mxF (mxF (meF er 4) (nw 1)) (nI nl)) nw tg nl) (nw 5)) (nI pr)) nw nl pr) (obF nw tg nl)) nw tg tt us nl (by first | assumption | omega) (by first | assumption | omega)) k_X3_mixPlan rfl dX3_digest_121 q_619 q_621 q_31 ⟨nle rfl, nle rfl⟩ [5, 6, 7, 3, 4] [0, 1, 2] rfl rfl rfl rfl (by decide) 0 rfl rfl rfl (nle rfl) ⟨nle rfl, nle rfl⟩ (r_fin (st2 := []) (ws2 := [(r0, .inl (cI, 4, .inl er)), (w0, .inl (cI, 4096, .inl wy)), (u0, .inl (cI, 12, .inl ah)), (m0, .inr (3, [.ref n0, .ref q0, .int (nI sv), .ref r0, .ref t0, .ref w0, .ref u0, .ref v0, .ref y0, .int (nI (tmF nw tg tt nl)), .long (nqF (mxF (mxF (npF (mxF (mxF (nlF (mxF (mxF (meF er 4) (nw 1)) (nI nl)) nw tg nl) (nw 5)) (nI pr)) nw nl pr) (obF nw tg nl)) (nI (tmF nw tg tt nl))) (usW nw tg (ttF nw tg tt nl) (tmF nw tg tt nl) us nl) (ttF nw tg tt nl) nl (tmF nw tg tt nl))])), (n0, .inl (cI, 148, .inl nw)), (t0, .inl (cI, 10, .inl tg)), (v0, .inl (cI, 10, .inl (ttF nw tg tt nl))), (y0, .inl (cI, 10, .inl (usW nw tg (ttF nw tg tt nl) (tmF nw tg tt nl) us nl)))]) rfl rfl ?_)
                refine r_aload_n C dX3_digest_124 1 rfl ?_
                refine r_aload_n C dX3_digest_125 1 rfl ?_
                refine r_iconst C dX3_digest_126 (v := 1) (by decide) ?_
                refine r_aload_n C dX3_digest_127 1 rfl ?_
                refine r_get C clX3 dX3_digest_128 3 0 rfl (by decide) q_399 rfl ?_
                refine r_iconst C dX3_digest_131 (v := 4) (by decide) ?_
                refine r_iald C dX3_digest_132 4 rfl 4 rfl (by decide) (by decide) ?_
                refine r_top (b := nI pr) e4 ?_
                refine r_ishl C dX3_digest_133 ?_
                refine r_iconst C dX3_digest_134 (v := 1) (by decide) ?_
                refine r_isub C dX3_digest_135 ?_
                refine r_top (b := nI (2 ^ pr - 1)) (ab_nat hpr) ?_
                refine r_callV C (As := [.int (nI (2 ^ pr - 1))]) (rest := [.ref m0]) (wr := [(r0, .inl (cI, 4, .inl er)), (t0, .inl (cI, 10, .inl tg)), (v0, .inl (cI, 10, .inl (ttF nw tg tt nl))), (y0, .inl (cI, 10, .inl (usW nw tg (ttF nw tg tt nl) (tmF nw tg tt nl) us nl)))]) (c_X3_ordersOf l D cI cR m0 n0 q0 sv r0 t0 w0 u0 v0 y0 (nI (tmF nw tg tt nl)) (nqF (mxF (mxF (npF (mxF (mxF (nlF (mxF (mxF (meF er 4) (nw 1)) (nI nl)) nw tg nl) (nw 5)) (nI pr)) nw nl pr) (obF nw tg nl)) (nI (tmF nw tg tt nl))) (usW nw tg (ttF nw tg tt nl) (tmF nw tg tt nl) us nl) (ttF nw tg tt nl) nl (tmF nw tg tt nl)) nw wy ah pr (2 ^ pr - 1) (by first | assumption | omega) (by first | assumption | omega) (p2_lt hpr)) k_X3_ordersOf rfl dX3_digest_136 q_541 q_543 q_20 ⟨nle rfl, nle rfl⟩ [3, 4, 1, 2] [0, 5, 6, 7] rfl rfl rfl rfl (by decide) 0 rfl rfl rfl (nle rfl) ⟨nle rfl, nle rfl⟩ (r_fin (st2 := [.int (wyO (ahO ah nw pr pr) wy pr (2 ^ pr - 1) (2 ^ pr - 1)), .ref m0]) (ws2 := [(r0, .inl (cI, 4, .inl er)), (t0, .inl (cI, 10, .inl tg)), (v0, .inl (cI, 10, .inl (ttF nw tg tt nl))), (y0, .inl (cI, 10, .inl (usW nw tg (ttF nw tg tt nl) (tmF nw tg tt nl) us nl))), (m0, .inr (3, [.ref n0, .ref q0, .int (nI sv), .ref r0, .ref t0, .ref w0, .ref u0, .ref v0, .ref y0, .int (nI (tmF nw tg tt nl)), .long (nqF (mxF (mxF (npF (mxF (mxF (nlF (mxF (mxF (meF er 4) (nw 1)) (nI nl)) nw tg nl) (nw 5)) (nI pr)) nw nl pr) (obF nw tg nl)) (nI (tmF nw tg tt nl))) (usW nw tg (ttF nw tg tt nl) (tmF nw tg tt nl) us nl) (ttF nw tg tt nl) nl (tmF nw tg tt nl))])), (n0, .inl (cI, 148, .inl nw)), (w0, .inl (cI, 4096, .inl (wyO (ahO ah nw pr pr) wy pr (2 ^ pr - 1)))), (u0, .inl (cI, 12, .inl (ahO ah nw pr pr)))]) rfl rfl ?_)
                refine r_callV C (As := [.int (wyO (ahO ah nw pr pr) wy pr (2 ^ pr - 1) (2 ^ pr - 1))]) (rest := []) (wr := [(r0, .inl (cI, 4, .inl er)), (t0, .inl (cI, 10, .inl tg)), (v0, .inl (cI, 10, .inl (ttF nw tg tt nl))), (y0, .inl (cI, 10, .inl (usW nw tg (ttF nw tg tt nl) (tmF nw tg tt nl) us nl))), (n0, .inl (cI, 148, .inl nw)), (w0, .inl (cI, 4096, .inl (wyO (ahO ah nw pr pr) wy pr (2 ^ pr - 1)))), (u0, .inl (cI, 12, .inl (ahO ah nw pr pr)))]) (c_X3_mix l D cI cR m0 n0 q0 sv r0 t0 w0 u0 v0 y0 (nI (tmF nw tg tt nl)) (nqF (mxF (mxF (npF (mxF (mxF (nlF (mxF (mxF (meF er 4) (nw 1)) (nI nl)) nw tg nl) (nw 5)) (nI pr)) nw nl pr) (obF nw tg nl)) (nI (tmF nw tg tt nl))) (usW nw tg (ttF nw tg tt nl) (tmF nw tg tt nl) us nl) (ttF nw tg tt nl) nl (tmF nw tg tt nl)) (wyO (ahO ah nw pr pr) wy pr (2 ^ pr - 1) (2 ^ pr - 1)) ) k_X3_mix rfl dX3_digest_139 q_610 q_612 q_29 ⟨nle rfl, nle rfl⟩ [4] [0, 1, 2, 3, 5, 6, 7] rfl rfl rfl rfl (by decide) 0 rfl rfl rfl (nle rfl) ⟨nle rfl, nle rfl⟩ (r_fin (st2 := []) (ws2 := [(r0, .inl (cI, 4, .inl er)), (t0, .inl (cI, 10, .inl tg)), (v0, .inl (cI, 10, .inl (ttF nw tg tt nl))), (y0, .inl (cI, 10, .inl (usW nw tg (ttF nw tg tt nl) (tmF nw tg tt nl) us nl))), (n0, .inl (cI, 148, .inl nw)), (w0, .inl (cI, 4096, .inl (wyO (ahO ah nw pr pr) wy pr (2 ^ pr - 1)))), (u0, .inl (cI, 12, .inl (ahO ah nw pr pr))), (m0, .inr (3, [.ref n0, .ref q0, .int (nI sv), .ref r0, .ref t0, .ref w0, .ref u0, .ref v0, .ref y0, .int (nI (tmF nw tg tt nl)), .long (mxF (nqF (mxF (mxF (npF (mxF (mxF (nlF (mxF (mxF (meF er 4) (nw 1)) (nI nl)) nw tg nl) (nw 5)) (nI pr)) nw nl pr) (obF nw tg nl)) (nI (tmF nw tg tt nl))) (usW nw tg (ttF nw tg tt nl) (tmF nw tg tt nl) us nl) (ttF nw tg tt nl) nl (tmF nw tg tt nl)) (wyO (ahO ah nw pr pr) wy pr (2 ^ pr - 1) (2 ^ pr - 1)))]))]) rfl rfl ?_)
                refine r_aload_n C dX3_digest_142 1 rfl ?_
                refine r_aload_n C dX3_digest_143 1 rfl ?_
                refine r_get C clX3 dX3_digest_144 7 2 rfl (by decide) q_401 rfl ?_
                refine r_callV C (As := [.int (nI sv)]) (rest := []) (wr := [(r0, .inl (cI, 4, .inl er)), (t0, .inl (cI, 10, .inl tg)), (v0, .inl (cI, 10, .inl (ttF nw tg tt nl))), (y0, .inl (cI, 10, .inl (usW nw tg (ttF nw tg tt nl) (tmF nw tg tt nl) us nl))), (n0, .inl (cI, 148, .inl nw)), (w0, .inl (cI, 4096, .inl (wyO (ahO ah nw pr pr) wy pr (2 ^ pr - 1)))), (u0, .inl (cI, 12, .inl (ahO ah nw pr pr)))]) (c_X3_mix l D cI cR m0 n0 q0 sv r0 t0 w0 u0 v0 y0 (nI (tmF nw tg tt nl)) (mxF (nqF (mxF (mxF (npF (mxF (mxF (nlF (mxF (mxF (meF er 4) (nw 1)) (nI nl)) nw tg nl) (nw 5)) (nI pr)) nw nl pr) (obF nw tg nl)) (nI (tmF nw tg tt nl))) (usW nw tg (ttF nw tg tt nl) (tmF nw tg tt nl) us nl) (ttF nw tg tt nl) nl (tmF nw tg tt nl)) (wyO (ahO ah nw pr pr) wy pr (2 ^ pr - 1) (2 ^ pr - 1))) (nI sv) ) k_X3_mix rfl dX3_digest_147 q_610 q_612 q_29 ⟨nle rfl, nle rfl⟩ [7] [0, 1, 2, 3, 4, 5, 6] rfl rfl rfl rfl (by decide) 0 rfl rfl rfl (nle rfl) ⟨nle rfl, nle rfl⟩ (r_fin (st2 := []) (ws2 := [(r0, .inl (cI, 4, .inl er)), (t0, .inl (cI, 10, .inl tg)), (v0, .inl (cI, 10, .inl (ttF nw tg tt nl))), (y0, .inl (cI, 10, .inl (usW nw tg (ttF nw tg tt nl) (tmF nw tg tt nl) us nl))), (n0, .inl (cI, 148, .inl nw)), (w0, .inl (cI, 4096, .inl (wyO (ahO ah nw pr pr) wy pr (2 ^ pr - 1)))), (u0, .inl (cI, 12, .inl (ahO ah nw pr pr))), (m0, .inr (3, [.ref n0, .ref q0, .int (nI sv), .ref r0, .ref t0, .ref w0, .ref u0, .ref v0, .ref y0, .int (nI (tmF nw tg tt nl)), .long (mxF (mxF (nqF (mxF (mxF (npF (mxF (mxF (nlF (mxF (mxF (meF er 4) (nw 1)) (nI nl)) nw tg nl) (nw 5)) (nI pr)) nw nl pr) (obF nw tg nl)) (nI (tmF nw tg tt nl))) (usW nw tg (ttF nw tg tt nl) (tmF nw tg tt nl) us nl) (ttF nw tg tt nl) nl (tmF nw tg tt nl)) (wyO (ahO ah nw pr pr) wy pr (2 ^ pr - 1) (2 ^ pr - 1))) (nI sv))]))]) rfl rfl ?_)
                refine r_aload_n C dX3_digest_150 1 rfl ?_
                refine r_get C clX3 dX3_digest_151 7 10 rfl (by decide) q_409 rfl ?_
                refine r_ws [7, 4, 1, 0, 5, 6, 2, 3] (ws2 := [(m0, .inr (3, [.ref n0, .ref q0, .int (nI sv), .ref r0, .ref t0, .ref w0, .ref u0, .ref v0, .ref y0, .int (nI (tmF nw tg tt nl)), .long (mxF (mxF (nqF (mxF (mxF (npF (mxF (mxF (nlF (mxF (mxF (meF er 4) (nw 1)) (nI nl)) nw tg nl) (nw 5)) (nI pr)) nw nl pr) (obF nw tg nl)) (nI (tmF nw tg tt nl))) (usW nw tg (ttF nw tg tt nl) (tmF nw tg tt nl) us nl) (ttF nw tg tt nl) nl (tmF nw tg tt nl)) (wyO (ahO ah nw pr pr) wy pr (2 ^ pr - 1) (2 ^ pr - 1))) (nI sv))])), (n0, .inl (cI, 148, .inl nw)), (t0, .inl (cI, 10, .inl tg)), (r0, .inl (cI, 4, .inl er)), (w0, .inl (cI, 4096, .inl (wyO (ahO ah nw pr pr) wy pr (2 ^ pr - 1)))), (u0, .inl (cI, 12, .inl (ahO ah nw pr pr))), (v0, .inl (cI, 10, .inl (ttF nw tg tt nl))), (y0, .inl (cI, 10, .inl (usW nw tg (ttF nw tg tt nl) (tmF nw tg tt nl) us nl)))]) rfl rfl ?_
                exact r_lret C E dX3_digest_154 (nle rfl) (nle rfl) ⟨rfl, rfl⟩
            · have n_4 := mt (nI_leI (a := nl) (b := i) (by omega) (by omega)).mpr c_3
              refine r_aload_n C dX3_digest_62 1 rfl ?_
              refine r_aload_n C dX3_digest_63 1 rfl ?_
              refine r_get C clX3 dX3_digest_64 7 0 rfl (by decide) q_399 rfl ?_
              refine r_bipush C dX3_digest_67 (v := 6) (by decide) ?_
              refine r_iload_n C dX3_digest_69 0 rfl ?_
              refine r_iadd C dX3_digest_70 ?_
              refine r_top (b := nI (6 + i)) (nA rfl rfl) ?_
              refine r_iald C dX3_digest_71 0 rfl (6 + i) rfl (by omega) (by decide) ?_
              refine r_callV C (As := [.int (nw (6 + i))]) (rest := []) (wr := [(n0, .inl (cI, 148, .inl nw)), (t0, .inl (cI, 10, .inl tg)), (r0, .inl (cI, 4, .inl er)), (w0, .inl (cI, 4096, .inl wy)), (u0, .inl (cI, 12, .inl ah)), (v0, .inl (cI, 10, .inl tt)), (y0, .inl (cI, 10, .inl us))]) (c_X3_mix l D cI cR m0 n0 q0 sv r0 t0 w0 u0 v0 y0 tm hh (nw (6 + i)) ) k_X3_mix rfl dX3_digest_72 q_610 q_612 q_29 ⟨nle rfl, nle rfl⟩ [7] [0, 1, 2, 3, 4, 5, 6] rfl rfl rfl rfl (by decide) 0 rfl rfl rfl (nle rfl) ⟨nle rfl, nle rfl⟩ (r_fin (st2 := []) (ws2 := [(n0, .inl (cI, 148, .inl nw)), (t0, .inl (cI, 10, .inl tg)), (r0, .inl (cI, 4, .inl er)), (w0, .inl (cI, 4096, .inl wy)), (u0, .inl (cI, 12, .inl ah)), (v0, .inl (cI, 10, .inl tt)), (y0, .inl (cI, 10, .inl us)), (m0, .inr (3, [.ref n0, .ref q0, .int (nI sv), .ref r0, .ref t0, .ref w0, .ref u0, .ref v0, .ref y0, .int tm, .long (mxF hh (nw (6 + i)))]))]) rfl rfl ?_)
              refine r_aload_n C dX3_digest_75 1 rfl ?_
              refine r_aload_n C dX3_digest_76 1 rfl ?_
              refine r_get C clX3 dX3_digest_77 7 4 rfl (by decide) q_403 rfl ?_
              refine r_iload_n C dX3_digest_80 0 rfl ?_
              refine r_iald C dX3_digest_81 1 rfl i rfl (by omega) (by decide) ?_
              refine r_callV C (As := [.int (tg i)]) (rest := []) (wr := [(n0, .inl (cI, 148, .inl nw)), (t0, .inl (cI, 10, .inl tg)), (r0, .inl (cI, 4, .inl er)), (w0, .inl (cI, 4096, .inl wy)), (u0, .inl (cI, 12, .inl ah)), (v0, .inl (cI, 10, .inl tt)), (y0, .inl (cI, 10, .inl us))]) (c_X3_mix l D cI cR m0 n0 q0 sv r0 t0 w0 u0 v0 y0 tm (mxF hh (nw (6 + i))) (tg i) ) k_X3_mix rfl dX3_digest_82 q_610 q_612 q_29 ⟨nle rfl, nle rfl⟩ [7] [0, 1, 2, 3, 4, 5, 6] rfl rfl rfl rfl (by decide) 0 rfl rfl rfl (nle rfl) ⟨nle rfl, nle rfl⟩ (r_fin (st2 := []) (ws2 := [(n0, .inl (cI, 148, .inl nw)), (t0, .inl (cI, 10, .inl tg)), (r0, .inl (cI, 4, .inl er)), (w0, .inl (cI, 4096, .inl wy)), (u0, .inl (cI, 12, .inl ah)), (v0, .inl (cI, 10, .inl tt)), (y0, .inl (cI, 10, .inl us)), (m0, .inr (3, [.ref n0, .ref q0, .int (nI sv), .ref r0, .ref t0, .ref w0, .ref u0, .ref v0, .ref y0, .int tm, .long (mxF (mxF hh (nw (6 + i))) (tg i))]))]) rfl rfl ?_)
              refine r_iinc C dX3_digest_85 0 rfl (v := nI (i + 1)) (nI_1 _) (by decide) (lv2 := [(1, .int (nI (i + 1))), (0, .ref m0)]) rfl ?_
              refine r_goto C dX3_digest_88 (tgt := 52) (by decide) ?_
              exact ih_52 (i + 1) (by omega) (by omega) _ (by subst e_hh; rfl) 
        exact L_52 (nl + 1) 0 (by omega) (by omega) _ rfl 
      · have n_2 := mt (nI_leI (a := 4) (b := i) (by omega) (by omega)).mpr c_1
        refine r_aload_n C dX3_digest_14 1 rfl ?_
        refine r_aload_n C dX3_digest_15 1 rfl ?_
        refine r_get C clX3 dX3_digest_16 0 3 rfl (by decide) q_402 rfl ?_
        refine r_iload_n C dX3_digest_19 0 rfl ?_
        refine r_iald C dX3_digest_20 3 rfl i rfl (by omega) (by decide) ?_
        refine r_callV C (As := [.int (er i)]) (rest := []) (wr := [(n0, .inl (cI, 148, .inl nw)), (t0, .inl (cI, 10, .inl tg)), (r0, .inl (cI, 4, .inl er)), (w0, .inl (cI, 4096, .inl wy)), (u0, .inl (cI, 12, .inl ah)), (v0, .inl (cI, 10, .inl tt)), (y0, .inl (cI, 10, .inl us))]) (c_X3_mix l D cI cR m0 n0 q0 sv r0 t0 w0 u0 v0 y0 tm hh (er i) ) k_X3_mix rfl dX3_digest_21 q_610 q_612 q_29 ⟨nle rfl, nle rfl⟩ [0] [1, 2, 3, 4, 5, 6, 7] rfl rfl rfl rfl (by decide) 0 rfl rfl rfl (nle rfl) ⟨nle rfl, nle rfl⟩ (r_fin (st2 := []) (ws2 := [(n0, .inl (cI, 148, .inl nw)), (t0, .inl (cI, 10, .inl tg)), (r0, .inl (cI, 4, .inl er)), (w0, .inl (cI, 4096, .inl wy)), (u0, .inl (cI, 12, .inl ah)), (v0, .inl (cI, 10, .inl tt)), (y0, .inl (cI, 10, .inl us)), (m0, .inr (3, [.ref n0, .ref q0, .int (nI sv), .ref r0, .ref t0, .ref w0, .ref u0, .ref v0, .ref y0, .int tm, .long (mxF hh (er i))]))]) rfl rfl ?_)
        refine r_iinc C dX3_digest_24 0 rfl (v := nI (i + 1)) (nI_1 _) (by decide) (lv2 := [(1, .int (nI (i + 1))), (0, .ref m0)]) rfl ?_
        refine r_goto C dX3_digest_27 (tgt := 9) (by decide) ?_
        refine r_ws [7, 0, 1, 2, 3, 4, 5, 6] (ws2 := [(m0, .inr (3, [.ref n0, .ref q0, .int (nI sv), .ref r0, .ref t0, .ref w0, .ref u0, .ref v0, .ref y0, .int tm, .long (mxF hh (er i))])), (n0, .inl (cI, 148, .inl nw)), (t0, .inl (cI, 10, .inl tg)), (r0, .inl (cI, 4, .inl er)), (w0, .inl (cI, 4096, .inl wy)), (u0, .inl (cI, 12, .inl ah)), (v0, .inl (cI, 10, .inl tt)), (y0, .inl (cI, 10, .inl us))]) rfl rfl ?_
        exact ih_9 (i + 1) (by omega) (by omega) _ (by subst e_hh; rfl) 
  exact L_9 (4 + 1) 0 (by omega) (by omega) _ rfl 
