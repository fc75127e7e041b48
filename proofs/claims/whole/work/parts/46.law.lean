/-! each step of the law, its cases put together; the switch; the loop -/
theorem i_nlt {x : Int32} (h : 0 ≤ x) : ¬ x < 0 := by
  rw [i_lt]; rw [i_le] at h
  have : (0 : Int32).toInt = 0 := rfl
  omega
theorem op_0 {G : Cxt} {l : Launch} {D : va_G} {cI cR : ClassId} {nm : String} {b L : Nat} {xs : Nat → Int32} {i : Nat} {x0 h0 s0 p0 g0 e0 a1 a2 a3 p1 p2 p3 m0 n0 q0 r0 t0 w0 u0 v0 y0 : Nat} {A : Nat → PAd} {P : Nat → PSt} {d ss tn : Nat → Int32} {nl : Nat} {va sg : Int32} {pr : Nat} {sn wk : Int32} {sc : Nat} {fe mo to : Nat → Int32} {ml : Nat} {tc bl : Int32} {tg er nw ps : Nat → Int32} {sv : Nat} {er2 tg2 wy ah tt us : Nat → Int32} {tm : Int32} {hs : Int64} (C : Ok G l room_1 D cI cR cL_law 4 (yL nm)) (hX : Scr G b L xs) (hi : i + 3 ≤ L) (hL : L ≤ 1536) (hN : Nxt G cI cR b i x0 h0 s0 p0 g0 e0 a1 a2 a3 p1 p2 p3 m0 n0 q0 r0 t0 w0 u0 v0 y0) (hI : Inv d ss tn nl va sg pr sn wk P sc tg er nw ps sv er2 tg2) : Wr G 41 6008 148 [(0, .ref b), (1, .ref x0), (2, .ref m0), (3, .int (nI i))] [] (LwW cI cR x0 h0 s0 p0 g0 e0 a1 a2 a3 p1 p2 p3 m0 n0 q0 r0 t0 w0 u0 v0 y0 A P d ss tn nl va sg pr sn wk sc fe mo to ml tc bl tg er nw ps sv er2 tg2 wy ah tt us tm hs) := by
  rcases Nat.lt_or_ge nl 10 with h | h
  · exact o_draw_ok C hX hi hL hN hI h
  · exact o_draw_no C hX hi hL hN hI (by have := hI.2.1.1; omega)
theorem op_1 {G : Cxt} {l : Launch} {D : va_G} {cI cR : ClassId} {nm : String} {b L : Nat} {xs : Nat → Int32} {i : Nat} {x0 h0 s0 p0 g0 e0 a1 a2 a3 p1 p2 p3 m0 n0 q0 r0 t0 w0 u0 v0 y0 : Nat} {A : Nat → PAd} {P : Nat → PSt} {d ss tn : Nat → Int32} {nl : Nat} {va sg : Int32} {pr : Nat} {sn wk : Int32} {sc : Nat} {fe mo to : Nat → Int32} {ml : Nat} {tc bl : Int32} {tg er nw ps : Nat → Int32} {sv : Nat} {er2 tg2 wy ah tt us : Nat → Int32} {tm : Int32} {hs : Int64} (C : Ok G l room_1 D cI cR cL_law 4 (yL nm)) (hX : Scr G b L xs) (hi : i + 3 ≤ L) (hL : L ≤ 1536) (hN : Nxt G cI cR b i x0 h0 s0 p0 g0 e0 a1 a2 a3 p1 p2 p3 m0 n0 q0 r0 t0 w0 u0 v0 y0) (hI : Inv d ss tn nl va sg pr sn wk P sc tg er nw ps sv er2 tg2) : Wr G 41 6008 161 [(0, .ref b), (1, .ref x0), (2, .ref m0), (3, .int (nI i))] [] (LwW cI cR x0 h0 s0 p0 g0 e0 a1 a2 a3 p1 p2 p3 m0 n0 q0 r0 t0 w0 u0 v0 y0 A P d ss tn nl va sg pr sn wk sc fe mo to ml tc bl tg er nw ps sv er2 tg2 wy ah tt us tm hs) := by
  by_cases h : ¬ xs (i + 1) < 1 ∧ xs (i + 1) ≤ 5
  · exact o_str_ok C hX hi hL hN hI h
  · exact o_str_no C hX hi hL hN hI h
theorem op_2 {G : Cxt} {l : Launch} {D : va_G} {cI cR : ClassId} {nm : String} {b L : Nat} {xs : Nat → Int32} {i : Nat} {x0 h0 s0 p0 g0 e0 a1 a2 a3 p1 p2 p3 m0 n0 q0 r0 t0 w0 u0 v0 y0 : Nat} {A : Nat → PAd} {P : Nat → PSt} {d ss tn : Nat → Int32} {nl : Nat} {va sg : Int32} {pr : Nat} {sn wk : Int32} {sc : Nat} {fe mo to : Nat → Int32} {ml : Nat} {tc bl : Int32} {tg er nw ps : Nat → Int32} {sv : Nat} {er2 tg2 wy ah tt us : Nat → Int32} {tm : Int32} {hs : Int64} (C : Ok G l room_1 D cI cR cL_law 4 (yL nm)) (hX : Scr G b L xs) (hi : i + 3 ≤ L) (hL : L ≤ 1536) (hN : Nxt G cI cR b i x0 h0 s0 p0 g0 e0 a1 a2 a3 p1 p2 p3 m0 n0 q0 r0 t0 w0 u0 v0 y0) (hI : Inv d ss tn nl va sg pr sn wk P sc tg er nw ps sv er2 tg2) : Wr G 41 6008 184 [(0, .ref b), (1, .ref x0), (2, .ref m0), (3, .int (nI i))] [] (LwW cI cR x0 h0 s0 p0 g0 e0 a1 a2 a3 p1 p2 p3 m0 n0 q0 r0 t0 w0 u0 v0 y0 A P d ss tn nl va sg pr sn wk sc fe mo to ml tc bl tg er nw ps sv er2 tg2 wy ah tt us tm hs) := by
  by_cases h : ¬ xs (i + 1) < 0 ∧ xs (i + 1) ≤ 99
  · exact o_dip_ok C hX hi hL hN hI h
  · exact o_dip_no C hX hi hL hN hI h
theorem op_3 {G : Cxt} {l : Launch} {D : va_G} {cI cR : ClassId} {nm : String} {b L : Nat} {xs : Nat → Int32} {i : Nat} {x0 h0 s0 p0 g0 e0 a1 a2 a3 p1 p2 p3 m0 n0 q0 r0 t0 w0 u0 v0 y0 : Nat} {A : Nat → PAd} {P : Nat → PSt} {d ss tn : Nat → Int32} {nl : Nat} {va sg : Int32} {pr : Nat} {sn wk : Int32} {sc : Nat} {fe mo to : Nat → Int32} {ml : Nat} {tc bl : Int32} {tg er nw ps : Nat → Int32} {sv : Nat} {er2 tg2 wy ah tt us : Nat → Int32} {tm : Int32} {hs : Int64} (C : Ok G l room_1 D cI cR cL_law 4 (yL nm)) (hX : Scr G b L xs) (hi : i + 3 ≤ L) (hL : L ≤ 1536) (hN : Nxt G cI cR b i x0 h0 s0 p0 g0 e0 a1 a2 a3 p1 p2 p3 m0 n0 q0 r0 t0 w0 u0 v0 y0) (hI : Inv d ss tn nl va sg pr sn wk P sc tg er nw ps sv er2 tg2) : Wr G 41 6008 207 [(0, .ref b), (1, .ref x0), (2, .ref m0), (3, .int (nI i))] [] (LwW cI cR x0 h0 s0 p0 g0 e0 a1 a2 a3 p1 p2 p3 m0 n0 q0 r0 t0 w0 u0 v0 y0 A P d ss tn nl va sg pr sn wk sc fe mo to ml tc bl tg er nw ps sv er2 tg2 wy ah tt us tm hs) := by
  by_cases h : isF (xs (i + 1)) (nI nl) = 0
  · exact o_var_no C hX hi hL hN hI h
  · exact o_var_ok C hX hi hL hN hI h
theorem op_4 {G : Cxt} {l : Launch} {D : va_G} {cI cR : ClassId} {nm : String} {b L : Nat} {xs : Nat → Int32} {i : Nat} {x0 h0 s0 p0 g0 e0 a1 a2 a3 p1 p2 p3 m0 n0 q0 r0 t0 w0 u0 v0 y0 : Nat} {A : Nat → PAd} {P : Nat → PSt} {d ss tn : Nat → Int32} {nl : Nat} {va sg : Int32} {pr : Nat} {sn wk : Int32} {sc : Nat} {fe mo to : Nat → Int32} {ml : Nat} {tc bl : Int32} {tg er nw ps : Nat → Int32} {sv : Nat} {er2 tg2 wy ah tt us : Nat → Int32} {tm : Int32} {hs : Int64} (C : Ok G l room_1 D cI cR cL_law 4 (yL nm)) (hX : Scr G b L xs) (hi : i + 3 ≤ L) (hL : L ≤ 1536) (hN : Nxt G cI cR b i x0 h0 s0 p0 g0 e0 a1 a2 a3 p1 p2 p3 m0 n0 q0 r0 t0 w0 u0 v0 y0) (hI : Inv d ss tn nl va sg pr sn wk P sc tg er nw ps sv er2 tg2) : Wr G 41 6008 230 [(0, .ref b), (1, .ref x0), (2, .ref m0), (3, .int (nI i))] [] (LwW cI cR x0 h0 s0 p0 g0 e0 a1 a2 a3 p1 p2 p3 m0 n0 q0 r0 t0 w0 u0 v0 y0 A P d ss tn nl va sg pr sn wk sc fe mo to ml tc bl tg er nw ps sv er2 tg2 wy ah tt us tm hs) := by
  exact o_clean C hX hi hL hN hI
theorem op_5 {G : Cxt} {l : Launch} {D : va_G} {cI cR : ClassId} {nm : String} {b L : Nat} {xs : Nat → Int32} {i : Nat} {x0 h0 s0 p0 g0 e0 a1 a2 a3 p1 p2 p3 m0 n0 q0 r0 t0 w0 u0 v0 y0 : Nat} {A : Nat → PAd} {P : Nat → PSt} {d ss tn : Nat → Int32} {nl : Nat} {va sg : Int32} {pr : Nat} {sn wk : Int32} {sc : Nat} {fe mo to : Nat → Int32} {ml : Nat} {tc bl : Int32} {tg er nw ps : Nat → Int32} {sv : Nat} {er2 tg2 wy ah tt us : Nat → Int32} {tm : Int32} {hs : Int64} (C : Ok G l room_1 D cI cR cL_law 4 (yL nm)) (hX : Scr G b L xs) (hi : i + 3 ≤ L) (hL : L ≤ 1536) (hN : Nxt G cI cR b i x0 h0 s0 p0 g0 e0 a1 a2 a3 p1 p2 p3 m0 n0 q0 r0 t0 w0 u0 v0 y0) (hI : Inv d ss tn nl va sg pr sn wk P sc tg er nw ps sv er2 tg2) : Wr G 41 6008 243 [(0, .ref b), (1, .ref x0), (2, .ref m0), (3, .int (nI i))] [] (LwW cI cR x0 h0 s0 p0 g0 e0 a1 a2 a3 p1 p2 p3 m0 n0 q0 r0 t0 w0 u0 v0 y0 A P d ss tn nl va sg pr sn wk sc fe mo to ml tc bl tg er nw ps sv er2 tg2 wy ah tt us tm hs) := by
  by_cases h : ¬ ilF (xs (i + 1)) nl = 0 ∧ ¬ xs (i + 2) < 1 ∧ xs (i + 2) ≤ 99
  · rcases ix_case (xs (i + 1)) (n := nl) (by have := hI.2.1.1; omega) with z | ⟨li, hli, e⟩
    · exact absurd z h.1
    · exact o_bur_ok C hX hi hL hN hI hli e h.2
  · exact o_bur_no C hX hi hL hN hI h
theorem op_6 {G : Cxt} {l : Launch} {D : va_G} {cI cR : ClassId} {nm : String} {b L : Nat} {xs : Nat → Int32} {i : Nat} {x0 h0 s0 p0 g0 e0 a1 a2 a3 p1 p2 p3 m0 n0 q0 r0 t0 w0 u0 v0 y0 : Nat} {A : Nat → PAd} {P : Nat → PSt} {d ss tn : Nat → Int32} {nl : Nat} {va sg : Int32} {pr : Nat} {sn wk : Int32} {sc : Nat} {fe mo to : Nat → Int32} {ml : Nat} {tc bl : Int32} {tg er nw ps : Nat → Int32} {sv : Nat} {er2 tg2 wy ah tt us : Nat → Int32} {tm : Int32} {hs : Int64} (C : Ok G l room_1 D cI cR cL_law 4 (yL nm)) (hX : Scr G b L xs) (hi : i + 3 ≤ L) (hL : L ≤ 1536) (hN : Nxt G cI cR b i x0 h0 s0 p0 g0 e0 a1 a2 a3 p1 p2 p3 m0 n0 q0 r0 t0 w0 u0 v0 y0) (hI : Inv d ss tn nl va sg pr sn wk P sc tg er nw ps sv er2 tg2) : Wr G 41 6008 276 [(0, .ref b), (1, .ref x0), (2, .ref m0), (3, .int (nI i))] [] (LwW cI cR x0 h0 s0 p0 g0 e0 a1 a2 a3 p1 p2 p3 m0 n0 q0 r0 t0 w0 u0 v0 y0 A P d ss tn nl va sg pr sn wk sc fe mo to ml tc bl tg er nw ps sv er2 tg2 wy ah tt us tm hs) := by
  rcases Nat.lt_or_ge pr 12 with h | h
  · exact o_pull_ok C hX hi hL hN hI h
  · exact o_pull_no C hX hi hL hN hI (by have := hI.2.1.2.1; omega)
theorem op_7 {G : Cxt} {l : Launch} {D : va_G} {cI cR : ClassId} {nm : String} {b L : Nat} {xs : Nat → Int32} {i : Nat} {x0 h0 s0 p0 g0 e0 a1 a2 a3 p1 p2 p3 m0 n0 q0 r0 t0 w0 u0 v0 y0 : Nat} {A : Nat → PAd} {P : Nat → PSt} {d ss tn : Nat → Int32} {nl : Nat} {va sg : Int32} {pr : Nat} {sn wk : Int32} {sc : Nat} {fe mo to : Nat → Int32} {ml : Nat} {tc bl : Int32} {tg er nw ps : Nat → Int32} {sv : Nat} {er2 tg2 wy ah tt us : Nat → Int32} {tm : Int32} {hs : Int64} (C : Ok G l room_1 D cI cR cL_law 4 (yL nm)) (hX : Scr G b L xs) (hi : i + 3 ≤ L) (hL : L ≤ 1536) (hN : Nxt G cI cR b i x0 h0 s0 p0 g0 e0 a1 a2 a3 p1 p2 p3 m0 n0 q0 r0 t0 w0 u0 v0 y0) (hI : Inv d ss tn nl va sg pr sn wk P sc tg er nw ps sv er2 tg2) : Wr G 41 6008 289 [(0, .ref b), (1, .ref x0), (2, .ref m0), (3, .int (nI i))] [] (LwW cI cR x0 h0 s0 p0 g0 e0 a1 a2 a3 p1 p2 p3 m0 n0 q0 r0 t0 w0 u0 v0 y0 A P d ss tn nl va sg pr sn wk sc fe mo to ml tc bl tg er nw ps sv er2 tg2 wy ah tt us tm hs) := by
  exact o_lines C hX hi hL hN hI
theorem op_8 {G : Cxt} {l : Launch} {D : va_G} {cI cR : ClassId} {nm : String} {b L : Nat} {xs : Nat → Int32} {i : Nat} {x0 h0 s0 p0 g0 e0 a1 a2 a3 p1 p2 p3 m0 n0 q0 r0 t0 w0 u0 v0 y0 : Nat} {A : Nat → PAd} {P : Nat → PSt} {d ss tn : Nat → Int32} {nl : Nat} {va sg : Int32} {pr : Nat} {sn wk : Int32} {sc : Nat} {fe mo to : Nat → Int32} {ml : Nat} {tc bl : Int32} {tg er nw ps : Nat → Int32} {sv : Nat} {er2 tg2 wy ah tt us : Nat → Int32} {tm : Int32} {hs : Int64} (C : Ok G l room_1 D cI cR cL_law 4 (yL nm)) (hX : Scr G b L xs) (hi : i + 3 ≤ L) (hL : L ≤ 1536) (hN : Nxt G cI cR b i x0 h0 s0 p0 g0 e0 a1 a2 a3 p1 p2 p3 m0 n0 q0 r0 t0 w0 u0 v0 y0) (hI : Inv d ss tn nl va sg pr sn wk P sc tg er nw ps sv er2 tg2) : Wr G 41 6008 302 [(0, .ref b), (1, .ref x0), (2, .ref m0), (3, .int (nI i))] [] (LwW cI cR x0 h0 s0 p0 g0 e0 a1 a2 a3 p1 p2 p3 m0 n0 q0 r0 t0 w0 u0 v0 y0 A P d ss tn nl va sg pr sn wk sc fe mo to ml tc bl tg er nw ps sv er2 tg2 wy ah tt us tm hs) := by
  rcases ix_case (xs (i + 1)) (n := nl) (by have := hI.2.1.1; omega) with z | ⟨li, hli, e⟩
  · exact o_dep_no C hX hi hL hN hI z
  · exact o_dep_ok C hX hi hL hN hI hli e
theorem op_9 {G : Cxt} {l : Launch} {D : va_G} {cI cR : ClassId} {nm : String} {b L : Nat} {xs : Nat → Int32} {i : Nat} {x0 h0 s0 p0 g0 e0 a1 a2 a3 p1 p2 p3 m0 n0 q0 r0 t0 w0 u0 v0 y0 : Nat} {A : Nat → PAd} {P : Nat → PSt} {d ss tn : Nat → Int32} {nl : Nat} {va sg : Int32} {pr : Nat} {sn wk : Int32} {sc : Nat} {fe mo to : Nat → Int32} {ml : Nat} {tc bl : Int32} {tg er nw ps : Nat → Int32} {sv : Nat} {er2 tg2 wy ah tt us : Nat → Int32} {tm : Int32} {hs : Int64} (C : Ok G l room_1 D cI cR cL_law 4 (yL nm)) (hX : Scr G b L xs) (hi : i + 3 ≤ L) (hL : L ≤ 1536) (hN : Nxt G cI cR b i x0 h0 s0 p0 g0 e0 a1 a2 a3 p1 p2 p3 m0 n0 q0 r0 t0 w0 u0 v0 y0) (hI : Inv d ss tn nl va sg pr sn wk P sc tg er nw ps sv er2 tg2) : Wr G 41 6008 325 [(0, .ref b), (1, .ref x0), (2, .ref m0), (3, .int (nI i))] [] (LwW cI cR x0 h0 s0 p0 g0 e0 a1 a2 a3 p1 p2 p3 m0 n0 q0 r0 t0 w0 u0 v0 y0 A P d ss tn nl va sg pr sn wk sc fe mo to ml tc bl tg er nw ps sv er2 tg2 wy ah tt us tm hs) := by
  exact o_varnished C hX hi hL hN hI
theorem op_10 {G : Cxt} {l : Launch} {D : va_G} {cI cR : ClassId} {nm : String} {b L : Nat} {xs : Nat → Int32} {i : Nat} {x0 h0 s0 p0 g0 e0 a1 a2 a3 p1 p2 p3 m0 n0 q0 r0 t0 w0 u0 v0 y0 : Nat} {A : Nat → PAd} {P : Nat → PSt} {d ss tn : Nat → Int32} {nl : Nat} {va sg : Int32} {pr : Nat} {sn wk : Int32} {sc : Nat} {fe mo to : Nat → Int32} {ml : Nat} {tc bl : Int32} {tg er nw ps : Nat → Int32} {sv : Nat} {er2 tg2 wy ah tt us : Nat → Int32} {tm : Int32} {hs : Int64} (C : Ok G l room_1 D cI cR cL_law 4 (yL nm)) (hX : Scr G b L xs) (hi : i + 3 ≤ L) (hL : L ≤ 1536) (hN : Nxt G cI cR b i x0 h0 s0 p0 g0 e0 a1 a2 a3 p1 p2 p3 m0 n0 q0 r0 t0 w0 u0 v0 y0) (hI : Inv d ss tn nl va sg pr sn wk P sc tg er nw ps sv er2 tg2) : Wr G 41 6008 338 [(0, .ref b), (1, .ref x0), (2, .ref m0), (3, .int (nI i))] [] (LwW cI cR x0 h0 s0 p0 g0 e0 a1 a2 a3 p1 p2 p3 m0 n0 q0 r0 t0 w0 u0 v0 y0 A P d ss tn nl va sg pr sn wk sc fe mo to ml tc bl tg er nw ps sv er2 tg2 wy ah tt us tm hs) := by
  rcases Nat.eq_zero_or_pos nl with h | h
  · exact o_mean_no C hX hi hL hN hI h
  · obtain ⟨S, hS, s1, s2⟩ := hI.sum
    obtain ⟨m1, m2, m3, m4⟩ := mean_of (mean_all h hI.2.1.1) hS
    exact o_mean_ok C hX hi hL hN hI h s1 s2 m1 m2 m3 m4
theorem op_11 {G : Cxt} {l : Launch} {D : va_G} {cI cR : ClassId} {nm : String} {b L : Nat} {xs : Nat → Int32} {i : Nat} {x0 h0 s0 p0 g0 e0 a1 a2 a3 p1 p2 p3 m0 n0 q0 r0 t0 w0 u0 v0 y0 : Nat} {A : Nat → PAd} {P : Nat → PSt} {d ss tn : Nat → Int32} {nl : Nat} {va sg : Int32} {pr : Nat} {sn wk : Int32} {sc : Nat} {fe mo to : Nat → Int32} {ml : Nat} {tc bl : Int32} {tg er nw ps : Nat → Int32} {sv : Nat} {er2 tg2 wy ah tt us : Nat → Int32} {tm : Int32} {hs : Int64} (C : Ok G l room_1 D cI cR cL_law 4 (yL nm)) (hX : Scr G b L xs) (hi : i + 3 ≤ L) (hL : L ≤ 1536) (hN : Nxt G cI cR b i x0 h0 s0 p0 g0 e0 a1 a2 a3 p1 p2 p3 m0 n0 q0 r0 t0 w0 u0 v0 y0) (hI : Inv d ss tn nl va sg pr sn wk P sc tg er nw ps sv er2 tg2) : Wr G 41 6008 351 [(0, .ref b), (1, .ref x0), (2, .ref m0), (3, .int (nI i))] [] (LwW cI cR x0 h0 s0 p0 g0 e0 a1 a2 a3 p1 p2 p3 m0 n0 q0 r0 t0 w0 u0 v0 y0 A P d ss tn nl va sg pr sn wk sc fe mo to ml tc bl tg er nw ps sv er2 tg2 wy ah tt us tm hs) := by
  exact o_prints C hX hi hL hN hI
theorem op_12 {G : Cxt} {l : Launch} {D : va_G} {cI cR : ClassId} {nm : String} {b L : Nat} {xs : Nat → Int32} {i : Nat} {x0 h0 s0 p0 g0 e0 a1 a2 a3 p1 p2 p3 m0 n0 q0 r0 t0 w0 u0 v0 y0 : Nat} {A : Nat → PAd} {P : Nat → PSt} {d ss tn : Nat → Int32} {nl : Nat} {va sg : Int32} {pr : Nat} {sn wk : Int32} {sc : Nat} {fe mo to : Nat → Int32} {ml : Nat} {tc bl : Int32} {tg er nw ps : Nat → Int32} {sv : Nat} {er2 tg2 wy ah tt us : Nat → Int32} {tm : Int32} {hs : Int64} (C : Ok G l room_1 D cI cR cL_law 4 (yL nm)) (hX : Scr G b L xs) (hi : i + 3 ≤ L) (hL : L ≤ 1536) (hN : Nxt G cI cR b i x0 h0 s0 p0 g0 e0 a1 a2 a3 p1 p2 p3 m0 n0 q0 r0 t0 w0 u0 v0 y0) (hI : Inv d ss tn nl va sg pr sn wk P sc tg er nw ps sv er2 tg2) : Wr G 41 6008 364 [(0, .ref b), (1, .ref x0), (2, .ref m0), (3, .int (nI i))] [] (LwW cI cR x0 h0 s0 p0 g0 e0 a1 a2 a3 p1 p2 p3 m0 n0 q0 r0 t0 w0 u0 v0 y0 A P d ss tn nl va sg pr sn wk sc fe mo to ml tc bl tg er nw ps sv er2 tg2 wy ah tt us tm hs) := by
  rcases ix_case (xs (i + 1)) (n := pr) hI.2.1.2.1 with z | ⟨li, hli, e⟩
  · exact o_sta_no C hX hi hL hN hI z
  · exact o_sta_ok C hX hi hL hN hI hli e
theorem op_13 {G : Cxt} {l : Launch} {D : va_G} {cI cR : ClassId} {nm : String} {b L : Nat} {xs : Nat → Int32} {i : Nat} {x0 h0 s0 p0 g0 e0 a1 a2 a3 p1 p2 p3 m0 n0 q0 r0 t0 w0 u0 v0 y0 : Nat} {A : Nat → PAd} {P : Nat → PSt} {d ss tn : Nat → Int32} {nl : Nat} {va sg : Int32} {pr : Nat} {sn wk : Int32} {sc : Nat} {fe mo to : Nat → Int32} {ml : Nat} {tc bl : Int32} {tg er nw ps : Nat → Int32} {sv : Nat} {er2 tg2 wy ah tt us : Nat → Int32} {tm : Int32} {hs : Int64} (C : Ok G l room_1 D cI cR cL_law 4 (yL nm)) (hX : Scr G b L xs) (hi : i + 3 ≤ L) (hL : L ≤ 1536) (hN : Nxt G cI cR b i x0 h0 s0 p0 g0 e0 a1 a2 a3 p1 p2 p3 m0 n0 q0 r0 t0 w0 u0 v0 y0) (hI : Inv d ss tn nl va sg pr sn wk P sc tg er nw ps sv er2 tg2) : Wr G 41 6008 387 [(0, .ref b), (1, .ref x0), (2, .ref m0), (3, .int (nI i))] [] (LwW cI cR x0 h0 s0 p0 g0 e0 a1 a2 a3 p1 p2 p3 m0 n0 q0 r0 t0 w0 u0 v0 y0 A P d ss tn nl va sg pr sn wk sc fe mo to ml tc bl tg er nw ps sv er2 tg2 wy ah tt us tm hs) := by
  by_cases h : ¬ ilF (xs (i + 1)) pr = 0 ∧ ¬ ilF (xs (i + 2)) nl = 0
  · rcases ix_case (xs (i + 1)) (n := pr) hI.2.1.2.1 with z | ⟨pq, hpq, e1⟩
    · exact absurd z h.1
    · rcases ix_case (xs (i + 2)) (n := nl) (by have := hI.2.1.1; omega) with z | ⟨li, hli, e2⟩
      · exact absurd z h.2
      · exact o_tone_ok C hX hi hL hN hI hpq hli e1 e2
  · exact o_tone_no C hX hi hL hN hI h
theorem op_14 {G : Cxt} {l : Launch} {D : va_G} {cI cR : ClassId} {nm : String} {b L : Nat} {xs : Nat → Int32} {i : Nat} {x0 h0 s0 p0 g0 e0 a1 a2 a3 p1 p2 p3 m0 n0 q0 r0 t0 w0 u0 v0 y0 : Nat} {A : Nat → PAd} {P : Nat → PSt} {d ss tn : Nat → Int32} {nl : Nat} {va sg : Int32} {pr : Nat} {sn wk : Int32} {sc : Nat} {fe mo to : Nat → Int32} {ml : Nat} {tc bl : Int32} {tg er nw ps : Nat → Int32} {sv : Nat} {er2 tg2 wy ah tt us : Nat → Int32} {tm : Int32} {hs : Int64} (C : Ok G l room_1 D cI cR cL_law 4 (yL nm)) (hX : Scr G b L xs) (hi : i + 3 ≤ L) (hL : L ≤ 1536) (hN : Nxt G cI cR b i x0 h0 s0 p0 g0 e0 a1 a2 a3 p1 p2 p3 m0 n0 q0 r0 t0 w0 u0 v0 y0) (hI : Inv d ss tn nl va sg pr sn wk P sc tg er nw ps sv er2 tg2) : Wr G 41 6008 420 [(0, .ref b), (1, .ref x0), (2, .ref m0), (3, .int (nI i))] [] (LwW cI cR x0 h0 s0 p0 g0 e0 a1 a2 a3 p1 p2 p3 m0 n0 q0 r0 t0 w0 u0 v0 y0 A P d ss tn nl va sg pr sn wk sc fe mo to ml tc bl tg er nw ps sv er2 tg2 wy ah tt us tm hs) := by
  by_cases h : ¬ ilF (xs (i + 1)) pr = 0 ∧ ¬ ilF (xs (i + 2)) pr = 0
  · rcases ix_case (xs (i + 1)) (n := pr) hI.2.1.2.1 with z | ⟨pq, hpq, e1⟩
    · exact absurd z h.1
    · rcases ix_case (xs (i + 2)) (n := pr) hI.2.1.2.1 with z | ⟨pj, hpj, e2⟩
      · exact absurd z h.2
      · exact o_may_ok C hX hi hL hN hI hpq hpj e1 e2
  · exact o_may_no C hX hi hL hN hI h
theorem op_15 {G : Cxt} {l : Launch} {D : va_G} {cI cR : ClassId} {nm : String} {b L : Nat} {xs : Nat → Int32} {i : Nat} {x0 h0 s0 p0 g0 e0 a1 a2 a3 p1 p2 p3 m0 n0 q0 r0 t0 w0 u0 v0 y0 : Nat} {A : Nat → PAd} {P : Nat → PSt} {d ss tn : Nat → Int32} {nl : Nat} {va sg : Int32} {pr : Nat} {sn wk : Int32} {sc : Nat} {fe mo to : Nat → Int32} {ml : Nat} {tc bl : Int32} {tg er nw ps : Nat → Int32} {sv : Nat} {er2 tg2 wy ah tt us : Nat → Int32} {tm : Int32} {hs : Int64} (C : Ok G l room_1 D cI cR cL_law 4 (yL nm)) (hX : Scr G b L xs) (hi : i + 3 ≤ L) (hL : L ≤ 1536) (hN : Nxt G cI cR b i x0 h0 s0 p0 g0 e0 a1 a2 a3 p1 p2 p3 m0 n0 q0 r0 t0 w0 u0 v0 y0) (hI : Inv d ss tn nl va sg pr sn wk P sc tg er nw ps sv er2 tg2) : Wr G 41 6008 453 [(0, .ref b), (1, .ref x0), (2, .ref m0), (3, .int (nI i))] [] (LwW cI cR x0 h0 s0 p0 g0 e0 a1 a2 a3 p1 p2 p3 m0 n0 q0 r0 t0 w0 u0 v0 y0 A P d ss tn nl va sg pr sn wk sc fe mo to ml tc bl tg er nw ps sv er2 tg2 wy ah tt us tm hs) := by
  by_cases h : isF (xs (i + 1)) (nI pr) = 0
  · exact o_ord_no C hX hi hL hN hI h
  · obtain ⟨z, hz, e⟩ := is_nat hI.2.1.2.1 h
    exact o_ord_ok C hX hi hL hN hI hz e (by rw [← e]; exact h)
theorem op_16 {G : Cxt} {l : Launch} {D : va_G} {cI cR : ClassId} {nm : String} {b L : Nat} {xs : Nat → Int32} {i : Nat} {x0 h0 s0 p0 g0 e0 a1 a2 a3 p1 p2 p3 m0 n0 q0 r0 t0 w0 u0 v0 y0 : Nat} {A : Nat → PAd} {P : Nat → PSt} {d ss tn : Nat → Int32} {nl : Nat} {va sg : Int32} {pr : Nat} {sn wk : Int32} {sc : Nat} {fe mo to : Nat → Int32} {ml : Nat} {tc bl : Int32} {tg er nw ps : Nat → Int32} {sv : Nat} {er2 tg2 wy ah tt us : Nat → Int32} {tm : Int32} {hs : Int64} (C : Ok G l room_1 D cI cR cL_law 4 (yL nm)) (hX : Scr G b L xs) (hi : i + 3 ≤ L) (hL : L ≤ 1536) (hN : Nxt G cI cR b i x0 h0 s0 p0 g0 e0 a1 a2 a3 p1 p2 p3 m0 n0 q0 r0 t0 w0 u0 v0 y0) (hI : Inv d ss tn nl va sg pr sn wk P sc tg er nw ps sv er2 tg2) : Wr G 41 6008 476 [(0, .ref b), (1, .ref x0), (2, .ref m0), (3, .int (nI i))] [] (LwW cI cR x0 h0 s0 p0 g0 e0 a1 a2 a3 p1 p2 p3 m0 n0 q0 r0 t0 w0 u0 v0 y0 A P d ss tn nl va sg pr sn wk sc fe mo to ml tc bl tg er nw ps sv er2 tg2 wy ah tt us tm hs) := by
  exact o_best C hX hi hL hN hI
theorem op_17 {G : Cxt} {l : Launch} {D : va_G} {cI cR : ClassId} {nm : String} {b L : Nat} {xs : Nat → Int32} {i : Nat} {x0 h0 s0 p0 g0 e0 a1 a2 a3 p1 p2 p3 m0 n0 q0 r0 t0 w0 u0 v0 y0 : Nat} {A : Nat → PAd} {P : Nat → PSt} {d ss tn : Nat → Int32} {nl : Nat} {va sg : Int32} {pr : Nat} {sn wk : Int32} {sc : Nat} {fe mo to : Nat → Int32} {ml : Nat} {tc bl : Int32} {tg er nw ps : Nat → Int32} {sv : Nat} {er2 tg2 wy ah tt us : Nat → Int32} {tm : Int32} {hs : Int64} (C : Ok G l room_1 D cI cR cL_law 4 (yL nm)) (hX : Scr G b L xs) (hi : i + 3 ≤ L) (hL : L ≤ 1536) (hN : Nxt G cI cR b i x0 h0 s0 p0 g0 e0 a1 a2 a3 p1 p2 p3 m0 n0 q0 r0 t0 w0 u0 v0 y0) (hI : Inv d ss tn nl va sg pr sn wk P sc tg er nw ps sv er2 tg2) : Wr G 41 6008 489 [(0, .ref b), (1, .ref x0), (2, .ref m0), (3, .int (nI i))] [] (LwW cI cR x0 h0 s0 p0 g0 e0 a1 a2 a3 p1 p2 p3 m0 n0 q0 r0 t0 w0 u0 v0 y0 A P d ss tn nl va sg pr sn wk sc fe mo to ml tc bl tg er nw ps sv er2 tg2 wy ah tt us tm hs) := by
  rcases st_case (xs (i + 1)) (xs (i + 2)) with ⟨li, hli, e, hv⟩ | ⟨h1, h2⟩
  · exact o_tgt_ok C hX hi hL hN hI hli e hv
  · exact o_tgt_no C hX hi hL hN hI h1 h2
theorem op_18 {G : Cxt} {l : Launch} {D : va_G} {cI cR : ClassId} {nm : String} {b L : Nat} {xs : Nat → Int32} {i : Nat} {x0 h0 s0 p0 g0 e0 a1 a2 a3 p1 p2 p3 m0 n0 q0 r0 t0 w0 u0 v0 y0 : Nat} {A : Nat → PAd} {P : Nat → PSt} {d ss tn : Nat → Int32} {nl : Nat} {va sg : Int32} {pr : Nat} {sn wk : Int32} {sc : Nat} {fe mo to : Nat → Int32} {ml : Nat} {tc bl : Int32} {tg er nw ps : Nat → Int32} {sv : Nat} {er2 tg2 wy ah tt us : Nat → Int32} {tm : Int32} {hs : Int64} (C : Ok G l room_1 D cI cR cL_law 4 (yL nm)) (hX : Scr G b L xs) (hi : i + 3 ≤ L) (hL : L ≤ 1536) (hN : Nxt G cI cR b i x0 h0 s0 p0 g0 e0 a1 a2 a3 p1 p2 p3 m0 n0 q0 r0 t0 w0 u0 v0 y0) (hI : Inv d ss tn nl va sg pr sn wk P sc tg er nw ps sv er2 tg2) : Wr G 41 6008 522 [(0, .ref b), (1, .ref x0), (2, .ref m0), (3, .int (nI i))] [] (LwW cI cR x0 h0 s0 p0 g0 e0 a1 a2 a3 p1 p2 p3 m0 n0 q0 r0 t0 w0 u0 v0 y0 A P d ss tn nl va sg pr sn wk sc fe mo to ml tc bl tg er nw ps sv er2 tg2 wy ah tt us tm hs) := by
  by_cases h : mkB d tg sg nl = 0
  · exact o_dips_ok C hX hi hL hN hI h
  · exact o_dips_no C hX hi hL hN hI h
theorem op_19 {G : Cxt} {l : Launch} {D : va_G} {cI cR : ClassId} {nm : String} {b L : Nat} {xs : Nat → Int32} {i : Nat} {x0 h0 s0 p0 g0 e0 a1 a2 a3 p1 p2 p3 m0 n0 q0 r0 t0 w0 u0 v0 y0 : Nat} {A : Nat → PAd} {P : Nat → PSt} {d ss tn : Nat → Int32} {nl : Nat} {va sg : Int32} {pr : Nat} {sn wk : Int32} {sc : Nat} {fe mo to : Nat → Int32} {ml : Nat} {tc bl : Int32} {tg er nw ps : Nat → Int32} {sv : Nat} {er2 tg2 wy ah tt us : Nat → Int32} {tm : Int32} {hs : Int64} (C : Ok G l room_1 D cI cR cL_law 4 (yL nm)) (hX : Scr G b L xs) (hi : i + 3 ≤ L) (hL : L ≤ 1536) (hN : Nxt G cI cR b i x0 h0 s0 p0 g0 e0 a1 a2 a3 p1 p2 p3 m0 n0 q0 r0 t0 w0 u0 v0 y0) (hI : Inv d ss tn nl va sg pr sn wk P sc tg er nw ps sv er2 tg2) : Wr G 41 6008 535 [(0, .ref b), (1, .ref x0), (2, .ref m0), (3, .int (nI i))] [] (LwW cI cR x0 h0 s0 p0 g0 e0 a1 a2 a3 p1 p2 p3 m0 n0 q0 r0 t0 w0 u0 v0 y0 A P d ss tn nl va sg pr sn wk sc fe mo to ml tc bl tg er nw ps sv er2 tg2 wy ah tt us tm hs) := by
  by_cases hd : 0 ≤ xs (i + 1)
  · by_cases hb : mkB d tg sg nl = 0
    · by_cases hd2 : nI (mkC d tg sg fe mo nl) ≤ xs (i + 1)
      · exact o_min_far C hX hi hL hN hI hd hb hd2
      · obtain ⟨dp, hdp, e⟩ := nI_of (i_nlt hd)
        have hm := mk_le d tg sg fe mo nl
        have hn := hI.2.1.1
        have hlt : dp < mkC d tg sg fe mo nl := by
          rw [e, nI_leI (by omega) (by omega)] at hd2
          omega
        exact o_min_ok C hX hi hL hN hI e (by rw [← e]; exact hd) hb hlt
    · exact o_min_no C hX hi hL hN hI hd hb
  · exact o_min_neg C hX hi hL hN hI hd
theorem op_20 {G : Cxt} {l : Launch} {D : va_G} {cI cR : ClassId} {nm : String} {b L : Nat} {xs : Nat → Int32} {i : Nat} {x0 h0 s0 p0 g0 e0 a1 a2 a3 p1 p2 p3 m0 n0 q0 r0 t0 w0 u0 v0 y0 : Nat} {A : Nat → PAd} {P : Nat → PSt} {d ss tn : Nat → Int32} {nl : Nat} {va sg : Int32} {pr : Nat} {sn wk : Int32} {sc : Nat} {fe mo to : Nat → Int32} {ml : Nat} {tc bl : Int32} {tg er nw ps : Nat → Int32} {sv : Nat} {er2 tg2 wy ah tt us : Nat → Int32} {tm : Int32} {hs : Int64} (C : Ok G l room_1 D cI cR cL_law 4 (yL nm)) (hX : Scr G b L xs) (hi : i + 3 ≤ L) (hL : L ≤ 1536) (hN : Nxt G cI cR b i x0 h0 s0 p0 g0 e0 a1 a2 a3 p1 p2 p3 m0 n0 q0 r0 t0 w0 u0 v0 y0) (hI : Inv d ss tn nl va sg pr sn wk P sc tg er nw ps sv er2 tg2) : Wr G 41 6008 558 [(0, .ref b), (1, .ref x0), (2, .ref m0), (3, .int (nI i))] [] (LwW cI cR x0 h0 s0 p0 g0 e0 a1 a2 a3 p1 p2 p3 m0 n0 q0 r0 t0 w0 u0 v0 y0 A P d ss tn nl va sg pr sn wk sc fe mo to ml tc bl tg er nw ps sv er2 tg2 wy ah tt us tm hs) := by
  by_cases hd : 0 ≤ xs (i + 1)
  · by_cases hb : mkB d tg sg nl = 0
    · by_cases hd2 : nI (mkC d tg sg fe mo nl) ≤ xs (i + 1)
      · exact o_set_far C hX hi hL hN hI hd hb hd2
      · obtain ⟨dp, hdp, e⟩ := nI_of (i_nlt hd)
        have hm := mk_le d tg sg fe mo nl
        have hn := hI.2.1.1
        have hlt : dp < mkC d tg sg fe mo nl := by
          rw [e, nI_leI (by omega) (by omega)] at hd2
          omega
        exact o_set_ok C hX hi hL hN hI e (by rw [← e]; exact hd) hb hlt
    · exact o_set_no C hX hi hL hN hI hd hb
  · exact o_set_neg C hX hi hL hN hI hd
theorem op_21 {G : Cxt} {l : Launch} {D : va_G} {cI cR : ClassId} {nm : String} {b L : Nat} {xs : Nat → Int32} {i : Nat} {x0 h0 s0 p0 g0 e0 a1 a2 a3 p1 p2 p3 m0 n0 q0 r0 t0 w0 u0 v0 y0 : Nat} {A : Nat → PAd} {P : Nat → PSt} {d ss tn : Nat → Int32} {nl : Nat} {va sg : Int32} {pr : Nat} {sn wk : Int32} {sc : Nat} {fe mo to : Nat → Int32} {ml : Nat} {tc bl : Int32} {tg er nw ps : Nat → Int32} {sv : Nat} {er2 tg2 wy ah tt us : Nat → Int32} {tm : Int32} {hs : Int64} (C : Ok G l room_1 D cI cR cL_law 4 (yL nm)) (hX : Scr G b L xs) (hi : i + 3 ≤ L) (hL : L ≤ 1536) (hN : Nxt G cI cR b i x0 h0 s0 p0 g0 e0 a1 a2 a3 p1 p2 p3 m0 n0 q0 r0 t0 w0 u0 v0 y0) (hI : Inv d ss tn nl va sg pr sn wk P sc tg er nw ps sv er2 tg2) : Wr G 41 6008 581 [(0, .ref b), (1, .ref x0), (2, .ref m0), (3, .int (nI i))] [] (LwW cI cR x0 h0 s0 p0 g0 e0 a1 a2 a3 p1 p2 p3 m0 n0 q0 r0 t0 w0 u0 v0 y0 A P d ss tn nl va sg pr sn wk sc fe mo to ml tc bl tg er nw ps sv er2 tg2 wy ah tt us tm hs) := by
  exact o_obst C hX hi hL hN hI
theorem op_22 {G : Cxt} {l : Launch} {D : va_G} {cI cR : ClassId} {nm : String} {b L : Nat} {xs : Nat → Int32} {i : Nat} {x0 h0 s0 p0 g0 e0 a1 a2 a3 p1 p2 p3 m0 n0 q0 r0 t0 w0 u0 v0 y0 : Nat} {A : Nat → PAd} {P : Nat → PSt} {d ss tn : Nat → Int32} {nl : Nat} {va sg : Int32} {pr : Nat} {sn wk : Int32} {sc : Nat} {fe mo to : Nat → Int32} {ml : Nat} {tc bl : Int32} {tg er nw ps : Nat → Int32} {sv : Nat} {er2 tg2 wy ah tt us : Nat → Int32} {tm : Int32} {hs : Int64} (C : Ok G l room_1 D cI cR cL_law 4 (yL nm)) (hX : Scr G b L xs) (hi : i + 3 ≤ L) (hL : L ≤ 1536) (hN : Nxt G cI cR b i x0 h0 s0 p0 g0 e0 a1 a2 a3 p1 p2 p3 m0 n0 q0 r0 t0 w0 u0 v0 y0) (hI : Inv d ss tn nl va sg pr sn wk P sc tg er nw ps sv er2 tg2) : Wr G 41 6008 594 [(0, .ref b), (1, .ref x0), (2, .ref m0), (3, .int (nI i))] [] (LwW cI cR x0 h0 s0 p0 g0 e0 a1 a2 a3 p1 p2 p3 m0 n0 q0 r0 t0 w0 u0 v0 y0 A P d ss tn nl va sg pr sn wk sc fe mo to ml tc bl tg er nw ps sv er2 tg2 wy ah tt us tm hs) := by
  have es := hI.2.2.2.1
  subst es
  cases sv with
  | zero => exact o_undo_no C hX hi hL hN hI rfl
  | succ sv => exact o_undo_ok (sv := 0) C hX hi hL hN hI
theorem op_23 {G : Cxt} {l : Launch} {D : va_G} {cI cR : ClassId} {nm : String} {b L : Nat} {xs : Nat → Int32} {i : Nat} {x0 h0 s0 p0 g0 e0 a1 a2 a3 p1 p2 p3 m0 n0 q0 r0 t0 w0 u0 v0 y0 : Nat} {A : Nat → PAd} {P : Nat → PSt} {d ss tn : Nat → Int32} {nl : Nat} {va sg : Int32} {pr : Nat} {sn wk : Int32} {sc : Nat} {fe mo to : Nat → Int32} {ml : Nat} {tc bl : Int32} {tg er nw ps : Nat → Int32} {sv : Nat} {er2 tg2 wy ah tt us : Nat → Int32} {tm : Int32} {hs : Int64} (C : Ok G l room_1 D cI cR cL_law 4 (yL nm)) (hX : Scr G b L xs) (hi : i + 3 ≤ L) (hL : L ≤ 1536) (hN : Nxt G cI cR b i x0 h0 s0 p0 g0 e0 a1 a2 a3 p1 p2 p3 m0 n0 q0 r0 t0 w0 u0 v0 y0) (hI : Inv d ss tn nl va sg pr sn wk P sc tg er nw ps sv er2 tg2) : Wr G 41 6008 607 [(0, .ref b), (1, .ref x0), (2, .ref m0), (3, .int (nI i))] [] (LwW cI cR x0 h0 s0 p0 g0 e0 a1 a2 a3 p1 p2 p3 m0 n0 q0 r0 t0 w0 u0 v0 y0 A P d ss tn nl va sg pr sn wk sc fe mo to ml tc bl tg er nw ps sv er2 tg2 wy ah tt us tm hs) := by
  by_cases h : ¬ xs (i + 1) < -5 ∧ xs (i + 1) ≤ -2
  · obtain ⟨j, hj, e⟩ := ec_nat h
    exact o_ec_ok C hX hi hL hN hI e hj h
  · exact o_ec_no C hX hi hL hN hI h
theorem op_24 {G : Cxt} {l : Launch} {D : va_G} {cI cR : ClassId} {nm : String} {b L : Nat} {xs : Nat → Int32} {i : Nat} {x0 h0 s0 p0 g0 e0 a1 a2 a3 p1 p2 p3 m0 n0 q0 r0 t0 w0 u0 v0 y0 : Nat} {A : Nat → PAd} {P : Nat → PSt} {d ss tn : Nat → Int32} {nl : Nat} {va sg : Int32} {pr : Nat} {sn wk : Int32} {sc : Nat} {fe mo to : Nat → Int32} {ml : Nat} {tc bl : Int32} {tg er nw ps : Nat → Int32} {sv : Nat} {er2 tg2 wy ah tt us : Nat → Int32} {tm : Int32} {hs : Int64} (C : Ok G l room_1 D cI cR cL_law 4 (yL nm)) (hX : Scr G b L xs) (hi : i + 3 ≤ L) (hL : L ≤ 1536) (hN : Nxt G cI cR b i x0 h0 s0 p0 g0 e0 a1 a2 a3 p1 p2 p3 m0 n0 q0 r0 t0 w0 u0 v0 y0) (hI : Inv d ss tn nl va sg pr sn wk P sc tg er nw ps sv er2 tg2) : Wr G 41 6008 630 [(0, .ref b), (1, .ref x0), (2, .ref m0), (3, .int (nI i))] [] (LwW cI cR x0 h0 s0 p0 g0 e0 a1 a2 a3 p1 p2 p3 m0 n0 q0 r0 t0 w0 u0 v0 y0 A P d ss tn nl va sg pr sn wk sc fe mo to ml tc bl tg er nw ps sv er2 tg2 wy ah tt us tm hs) := by
  by_cases h : mkB d tg sg nl = 0
  · exact o_dig_ok C hX hi hL hN hI h
  · exact o_dig_no C hX hi hL hN hI h
theorem and31 (x : Int32) : ∃ t, t ≤ 31 ∧ x &&& 31 = nI t := by
  obtain ⟨j, hj, e⟩ := and_nat (s := 31) (by omega) x
  exact ⟨j, hj, by rw [Int32.and_comm]; exact e⟩
set_option maxRecDepth 100000 in
theorem law_switch {G : Cxt} {l : Launch} {D : va_G} {cI cR : ClassId} {nm : String} {b L : Nat} {xs : Nat → Int32} {i : Nat} {x0 h0 s0 p0 g0 e0 a1 a2 a3 p1 p2 p3 m0 n0 q0 r0 t0 w0 u0 v0 y0 : Nat} {A : Nat → PAd} {P : Nat → PSt} {d ss tn : Nat → Int32} {nl : Nat} {va sg : Int32} {pr : Nat} {sn wk : Int32} {sc : Nat} {fe mo to : Nat → Int32} {ml : Nat} {tc bl : Int32} {tg er nw ps : Nat → Int32} {sv : Nat} {er2 tg2 wy ah tt us : Nat → Int32} {tm : Int32} {hs : Int64} (C : Ok G l room_1 D cI cR cL_law 4 (yL nm)) (hX : Scr G b L xs) (hi : i + 3 ≤ L) (hL : L ≤ 1536) (hN : Nxt G cI cR b i x0 h0 s0 p0 g0 e0 a1 a2 a3 p1 p2 p3 m0 n0 q0 r0 t0 w0 u0 v0 y0) (hI : Inv d ss tn nl va sg pr sn wk P sc tg er nw ps sv er2 tg2) : Wr G 41 6008 26 [(0, .ref b), (1, .ref x0), (2, .ref m0), (3, .int (nI i))] [] (LwW cI cR x0 h0 s0 p0 g0 e0 a1 a2 a3 p1 p2 p3 m0 n0 q0 r0 t0 w0 u0 v0 y0 A P d ss tn nl va sg pr sn wk sc fe mo to ml tc bl tg er nw ps sv er2 tg2 wy ah tt us tm hs) := by
  refine r_aload_n C dL_law_26 0 rfl ?_
  refine r_iload_n C dL_law_27 3 rfl ?_
  refine r_sld C hX dL_law_28 i rfl (by omega) (by omega) ?_
  refine r_bipush C dL_law_29 (v := 31) (by decide) ?_
  refine r_iand C dL_law_31 ?_
  obtain ⟨t, ht, e⟩ := and31 (xs i)
  refine r_top (b := nI t) e ?_
  rcases Nat.lt_or_ge 24 t with h | h
  · refine r_tabO C dL_law_32 (tgt := 644) (Or.inr (by rw [nI_toInt (by omega)]; omega)) (by decide) ?_
    exact hN _ _ _ _ _ _ _ _ _ _ _ _ _ _ _ _ _ _ _ _ _ _ _ _ _ _ _ _ _ _ _ hI
  · rcases (show t = 0 ∨ t = 1 ∨ t = 2 ∨ t = 3 ∨ t = 4 ∨ t = 5 ∨ t = 6 ∨ t = 7 ∨ t = 8 ∨ t = 9 ∨ t = 10 ∨ t = 11 ∨ t = 12 ∨ t = 13 ∨ t = 14 ∨ t = 15 ∨ t = 16 ∨ t = 17 ∨ t = 18 ∨ t = 19 ∨ t = 20 ∨ t = 21 ∨ t = 22 ∨ t = 23 ∨ t = 24 by omega) with rfl | rfl | rfl | rfl | rfl | rfl | rfl | rfl | rfl | rfl | rfl | rfl | rfl | rfl | rfl | rfl | rfl | rfl | rfl | rfl | rfl | rfl | rfl | rfl | rfl
    · exact r_tabI C dL_law_32 (off := 116) (tgt := 148) (by decide) (by decide) rfl (by decide) (op_0 C hX hi hL hN hI)
    · exact r_tabI C dL_law_32 (off := 129) (tgt := 161) (by decide) (by decide) rfl (by decide) (op_1 C hX hi hL hN hI)
    · exact r_tabI C dL_law_32 (off := 152) (tgt := 184) (by decide) (by decide) rfl (by decide) (op_2 C hX hi hL hN hI)
    · exact r_tabI C dL_law_32 (off := 175) (tgt := 207) (by decide) (by decide) rfl (by decide) (op_3 C hX hi hL hN hI)
    · exact r_tabI C dL_law_32 (off := 198) (tgt := 230) (by decide) (by decide) rfl (by decide) (op_4 C hX hi hL hN hI)
    · exact r_tabI C dL_law_32 (off := 211) (tgt := 243) (by decide) (by decide) rfl (by decide) (op_5 C hX hi hL hN hI)
    · exact r_tabI C dL_law_32 (off := 244) (tgt := 276) (by decide) (by decide) rfl (by decide) (op_6 C hX hi hL hN hI)
    · exact r_tabI C dL_law_32 (off := 257) (tgt := 289) (by decide) (by decide) rfl (by decide) (op_7 C hX hi hL hN hI)
    · exact r_tabI C dL_law_32 (off := 270) (tgt := 302) (by decide) (by decide) rfl (by decide) (op_8 C hX hi hL hN hI)
    · exact r_tabI C dL_law_32 (off := 293) (tgt := 325) (by decide) (by decide) rfl (by decide) (op_9 C hX hi hL hN hI)
    · exact r_tabI C dL_law_32 (off := 306) (tgt := 338) (by decide) (by decide) rfl (by decide) (op_10 C hX hi hL hN hI)
    · exact r_tabI C dL_law_32 (off := 319) (tgt := 351) (by decide) (by decide) rfl (by decide) (op_11 C hX hi hL hN hI)
    · exact r_tabI C dL_law_32 (off := 332) (tgt := 364) (by decide) (by decide) rfl (by decide) (op_12 C hX hi hL hN hI)
    · exact r_tabI C dL_law_32 (off := 355) (tgt := 387) (by decide) (by decide) rfl (by decide) (op_13 C hX hi hL hN hI)
    · exact r_tabI C dL_law_32 (off := 388) (tgt := 420) (by decide) (by decide) rfl (by decide) (op_14 C hX hi hL hN hI)
    · exact r_tabI C dL_law_32 (off := 421) (tgt := 453) (by decide) (by decide) rfl (by decide) (op_15 C hX hi hL hN hI)
    · exact r_tabI C dL_law_32 (off := 444) (tgt := 476) (by decide) (by decide) rfl (by decide) (op_16 C hX hi hL hN hI)
    · exact r_tabI C dL_law_32 (off := 457) (tgt := 489) (by decide) (by decide) rfl (by decide) (op_17 C hX hi hL hN hI)
    · exact r_tabI C dL_law_32 (off := 490) (tgt := 522) (by decide) (by decide) rfl (by decide) (op_18 C hX hi hL hN hI)
    · exact r_tabI C dL_law_32 (off := 503) (tgt := 535) (by decide) (by decide) rfl (by decide) (op_19 C hX hi hL hN hI)
    · exact r_tabI C dL_law_32 (off := 526) (tgt := 558) (by decide) (by decide) rfl (by decide) (op_20 C hX hi hL hN hI)
    · exact r_tabI C dL_law_32 (off := 549) (tgt := 581) (by decide) (by decide) rfl (by decide) (op_21 C hX hi hL hN hI)
    · exact r_tabI C dL_law_32 (off := 562) (tgt := 594) (by decide) (by decide) rfl (by decide) (op_22 C hX hi hL hN hI)
    · exact r_tabI C dL_law_32 (off := 575) (tgt := 607) (by decide) (by decide) rfl (by decide) (op_23 C hX hi hL hN hI)
    · exact r_tabI C dL_law_32 (off := 598) (tgt := 630) (by decide) (by decide) rfl (by decide) (op_24 C hX hi hL hN hI)
theorem law_loop {G : Cxt} {l : Launch} {D : va_G} {cI cR : ClassId} {nm : String} {b L : Nat} {xs : Nat → Int32} {x0 h0 s0 p0 g0 e0 a1 a2 a3 p1 p2 p3 m0 n0 q0 r0 t0 w0 u0 v0 y0 : Nat} (C : Ok G l room_1 D cI cR cL_law 4 (yL nm)) (hX : Scr G b L xs) (hL : L ≤ 1536) (hE : ∀ (lv : List (Nat × Value)) (ws : va_W), Wr G 41 6008 651 lv [.int 1] ws) : ∀ (z i : Nat), L < i + z → i ≤ L + 3 → ∀ (A : Nat → PAd) (P : Nat → PSt) (d ss tn : Nat → Int32) (nl : Nat) (va sg : Int32) (pr : Nat) (sn wk : Int32) (sc : Nat) (fe mo to : Nat → Int32) (ml : Nat) (tc bl : Int32) (tg er nw ps : Nat → Int32) (sv : Nat) (er2 tg2 wy ah tt us : Nat → Int32) (tm : Int32) (hs : Int64), Inv d ss tn nl va sg pr sn wk P sc tg er nw ps sv er2 tg2 → Wr G 41 6008 18 [(0, .ref b), (1, .ref x0), (2, .ref m0), (3, .int (nI i))] [] (LwW cI cR x0 h0 s0 p0 g0 e0 a1 a2 a3 p1 p2 p3 m0 n0 q0 r0 t0 w0 u0 v0 y0 A P d ss tn nl va sg pr sn wk sc fe mo to ml tc bl tg er nw ps sv er2 tg2 wy ah tt us tm hs) := by
  intro z
  induction z with
  | zero =>
    intro i hz hi A P d ss tn nl va sg pr sn wk sc fe mo to ml tc bl tg er nw ps sv er2 tg2 wy ah tt us tm hs hI
    refine r_iload_n C dL_law_18 3 rfl ?_
    refine r_aload_n C dL_law_19 0 rfl ?_
    refine r_slen C hX dL_law_20 ?_
    refine r_iconst C dL_law_21 (v := 3) (by decide) ?_
    refine r_isub C dL_law_22 ?_
    have hd3 : (nI L - 3).toInt = (L : Int) - 3 := pk_sub_toInt (a := L) (b := 3) (by omega) (by omega)
    have hdi : (nI i).toInt = i := nI_toInt (by omega)
    refine r_icmp_gt C dL_law_23 (tgt := 650) (by decide) (fun h => ?_) (fun h => ?_)
    · exact r_iconst C dL_law_650 (v := 1) (by decide) (hE _ _)
    · exfalso
      apply h
      rw [i_lt, hd3, hdi]
      omega
  | succ z ih =>
    intro i hz hi A P d ss tn nl va sg pr sn wk sc fe mo to ml tc bl tg er nw ps sv er2 tg2 wy ah tt us tm hs hI
    refine r_iload_n C dL_law_18 3 rfl ?_
    refine r_aload_n C dL_law_19 0 rfl ?_
    refine r_slen C hX dL_law_20 ?_
    refine r_iconst C dL_law_21 (v := 3) (by decide) ?_
    refine r_isub C dL_law_22 ?_
    have hd3 : (nI L - 3).toInt = (L : Int) - 3 := pk_sub_toInt (a := L) (b := 3) (by omega) (by omega)
    have hdi : (nI i).toInt = i := nI_toInt (by omega)
    refine r_icmp_gt C dL_law_23 (tgt := 650) (by decide) (fun h => ?_) (fun h => ?_)
    · exact r_iconst C dL_law_650 (v := 1) (by decide) (hE _ _)
    · have hiL : i + 3 ≤ L := by
        rw [i_lt, hd3, hdi] at h
        omega
      refine law_switch C hX hiL hL ?_ hI
      intro A P d ss tn nl va sg pr sn wk sc fe mo to ml tc bl tg er nw ps sv er2 tg2 wy ah tt us tm hs hI2
      refine r_iinc C dL_law_644 3 rfl (v := nI (i + 3)) (nA rfl rfl) (by decide) (lv2 := [(3, .int (nI (i + 3))), (0, .ref b), (1, .ref x0), (2, .ref m0)]) rfl ?_
      refine r_goto C dL_law_647 (tgt := 18) (by decide) ?_
      refine r_lv [1, 2, 3, 0] (lv2 := [(0, .ref b), (1, .ref x0), (2, .ref m0), (3, .int (nI (i + 3)))]) rfl ?_
      exact ih (i + 3) (by omega) (by omega) A P d ss tn nl va sg pr sn wk sc fe mo to ml tc bl tg er nw ps sv er2 tg2 wy ah tt us tm hs hI2
