theorem Met_ofWF {l : Launch} {y : MethodName} {ws ws' : List Cond} {rm : Room} {Pc : Array Value → State → Prop} {Qc : Array Value → State → Outcome → State → Prop} {mc ms : Nat} {free : Addr → Prop} {cc : ByteArray} {maxL : Nat} {ret : Option FieldType}
    (hy : plainFor y = true) (hw : ws = Cond.code y cc maxL ret :: ws')
    (body : ∀ p e s m args below meth c s₁, BodyLoose p l y (headSpec ws rm) cc maxL ret e s m args below meth c s₁ → c.maxLocals = maxL → Pc args s →
      W p l e (headSpec ws rm).room s m args below meth c s.heap [] 0 0 (MQ below Qc args s mc ms free) (entryFrame m args maxL)) : Met l y ws rm Pc Qc mc ms free := by
  refine MetFree.of_bodyRF (code := cc) (maxLocals := maxL) (ret := ret) hy ?_ ?_
  · intro args s m h hn
    obtain ⟨meth, c, h1, h2, h3, h4, h5, h6, -, -⟩ := Cond.code_spec hn (atoms_spec (ws := ws) h _ (by rw [hw]; exact List.mem_cons_self))
    exact ⟨meth, c, h1, h2, h3, h4, h5, h6⟩
  · intro p e s m args below meth c s₁ B hml hP _ hs
    have hh0 : s₁.heap = s.heap := by rw [B.state]; rfl
    obtain ⟨t, a1, o, b1, b2, b3⟩ := body p e s m args below meth c s₁ B hml hP s₁ hh0 (Stand.of_body B)
    exact ⟨t, o, hs.trans a1, b1, b2, ⟨b3.1, b3.2⟩⟩
theorem ctr_ofF {l : Launch} {R : Room} {D : va_G} {cI cR : ClassId} {cc : ByteArray} {y : MethodName} {maxL : Nat} {ret : Option FieldType} {av : List Value} {lv0 : List (Nat × Value)} {w : va_W} {Post : Option Value → va_W → Prop} (hy : plainFor y = true) (hlen : (lg_sl av).length ≤ maxL) (hlv : lv_args 0 av = lv0) (body : ∀ G : Cxt, Ok G l R D cI cR cc maxL y → En G ret Post R.cells R.slots → Wr G 0 0 0 lv0 [] w) : Ctr l D cI cR y cc maxL ret R av w Post := by
  intro sz
  refine Met_ofWF (cc := cc) (maxL := maxL) (ret := ret) hy rfl ?_
  intro p e s m args below meth c s₁ B hml hv
  obtain ⟨rfl, hsz, hP, hK, hD0, hN⟩ := hv
  subst hsz
  have hts := atoms_spec (ws := .code y cc maxL ret :: lw_g) B.pre
  have hl := lv_entry av (n := maxL) hlen
  rw [hlv] at hl
  rw [lg_entry_eq]
  have hA : ∀ q : Nat, s.heap.size ≤ q → va_A w s.heap.size q := fun q h => Or.inr h
  exact body (p, l, e, R, s, m, av.toArray, below, meth, c, D, cI, cR, va_A w s.heap.size, maxL, MQ below (rQ D Post (va_A w s.heap.size)) av.toArray s R.cells R.slots (va_A w s.heap.size)) ⟨⟨rfl, rfl, rfl, rfl, rfl, rfl⟩, B.exec, B.bytes, fun w h => hts w (List.mem_cons_of_mem _ h), findClass_of_methodNamed B.named, hK, hml, B.notSynchronized, hA, hN, (name_of_methodNamed B.named B.method).1⟩
    ⟨_, _, rfl, B.returns, fun q h => h, fun v ws H locs t hp hP hD hS ht hW => ⟨v, ws, rfl, hp, by rw [ht]; exact hP, hD, hS.F ht⟩⟩ s.heap [] _ hP (hD0.self (sz := s.heap.size)) va_S.rf hl
def nnF (v : UInt32) : Int32 := if cmL v v = 0 then (0 : Int32) else 1
set_option maxHeartbeats 4000000 in
set_option maxRecDepth 100000 in
/-- Float.isNaN -/
theorem c_Jxf58ca_isNaN_12338 (l : Launch) (D : va_G) (cI cR : ClassId) (v : UInt32)  : Ctr l D cI cR yJxf58ca_isNaN_12338 cJxf58ca_isNaN_12338 1 ((some .boolean)) ({ frames := 0, cells := 0, slots := 0, locals := 0 }) [.float v] [] (rP (some (.int (nnF v))) []) := by
  refine ctr_ofF (lv0 := [(0, .float v)]) (by decide +kernel) (nle rfl) rfl (fun G C E => ?_)
  refine r_fload_n C dJxf58ca_isNaN_12338_0 0 rfl ?_
  refine r_fload_n C dJxf58ca_isNaN_12338_1 0 rfl ?_
  refine r_fcmp C dJxf58ca_isNaN_12338_2 ?_
  have J_3 : ∀ (v_2 : Int32), v_2 = (if (Op.cmpValue (FP.fcmp v v) CmpOp.l) = 0 then (0 : Int32) else 1) → Wr G 0 0 11 [(0, .float v)] [.int v_2] [] := by
    intro v_2 ev_2
    subst ev_2
    exact r_zret C E dJxf58ca_isNaN_12338_11 (nle rfl) (nle rfl) zI01 ⟨rfl, rfl⟩
  refine r_if_eq C dJxf58ca_isNaN_12338_3 (tgt := 10) (by decide) (fun c_1 => ?_) (fun c_1 => ?_)
  · refine r_iconst C dJxf58ca_isNaN_12338_10 (v := 0) (by decide) ?_
    exact J_3 _ (by first | rfl | simp only [if_pos c_1])
  · refine r_iconst C dJxf58ca_isNaN_12338_6 (v := 1) (by decide) ?_
    refine r_goto C dJxf58ca_isNaN_12338_7 (tgt := 11) (by decide) ?_
    exact J_3 _ (by first | rfl | simp only [if_neg c_1])
set_option maxHeartbeats 4000000 in
set_option maxRecDepth 100000 in
/-- Float.floatToIntBits, of no NaN -/
theorem c_Jxf58ca_floatToIntBits_5c35a (l : Launch) (D : va_G) (cI cR : ClassId) (v : UInt32) (hnn : cmL v v = 0) : Ctr l D cI cR yJxf58ca_floatToIntBits_5c35a cJxf58ca_floatToIntBits_5c35a 1 ((some .int)) ({ frames := 1, cells := 0, slots := 0, locals := 26 }) [.float v] [] (rP (some (.int v.toInt32)) []) := by
  refine ctr_ofF (lv0 := [(0, .float v)]) (by decide +kernel) (nle rfl) rfl (fun G C E => ?_)
  refine r_fload_n C dJxf58ca_floatToIntBits_5c35a_0 0 rfl ?_
  refine r_callS C (As := [.float v]) (rest := []) (wr := []) (c_Jxf58ca_isNaN_12338 l D cI cR v ) k_Jxf58ca_isNaN_12338 rfl dJxf58ca_floatToIntBits_5c35a_1 q_502 q_503 ⟨nle rfl, nle rfl⟩ [] [] rfl rfl rfl rfl (by decide) rfl (nle rfl) ⟨nle rfl, nle rfl⟩ (r_fin (st2 := [.int (nnF v)]) (ws2 := []) rfl rfl ?_)
  refine r_if_ne C dJxf58ca_floatToIntBits_5c35a_4 (tgt := 12) (by decide) (fun c_1 => ?_) (fun c_1 => ?_)
  · exact absurd (by rw [nnF, if_pos hnn]) c_1
  · refine r_fload_n C dJxf58ca_floatToIntBits_5c35a_7 0 rfl ?_
    refine r_rawf C dJxf58ca_floatToIntBits_5c35a_8 q_505 (nle rfl) (nle rfl) ?_
    exact r_iret C E dJxf58ca_floatToIntBits_5c35a_11 (nle rfl) (nle rfl) ⟨rfl, rfl⟩
set_option maxHeartbeats 4000000 in
set_option maxRecDepth 100000 in
/-- meanDepthBits(), no lines -/
theorem c_X2_meanDepthBits_no (l : Launch) (D : va_G) (cI cR : ClassId) (x0 : Nat) (s0 : Nat) (p0 : Nat) (g0 : Nat) (e0 : Nat) (sc : Nat) (h0 : Nat) (a1 : Nat) (a2 : Nat) (a3 : Nat) (nl : Nat) (va : Int32) (sg : Int32) (pr : Nat) (sn : Int32) (wk : Int32) (hnl : nl = 0) : Ctr l D cI cR yX2_meanDepthBits cX2_meanDepthBits 2 ((some .int)) ({ frames := 1, cells := 0, slots := 0, locals := 22 }) [.ref x0] [(x0, .inr (2, [.ref h0, .ref s0, .ref p0, .ref g0, .ref e0, .int (nI sc)])), (h0, .inr (1, [.ref a1, .ref a2, .ref a3, .int (nI nl), .int va, .int sg, .int (nI pr), .int sn, .int wk]))] (rP (some (.int 0)) [(x0, .inr (2, [.ref h0, .ref s0, .ref p0, .ref g0, .ref e0, .int (nI sc)])), (h0, .inr (1, [.ref a1, .ref a2, .ref a3, .int (nI nl), .int va, .int sg, .int (nI pr), .int sn, .int wk]))]) := by
  refine ctr_of (lv0 := [(0, .ref x0)]) (by decide) (nle rfl) rfl (fun G C E => ?_)
  refine r_aload_n C dX2_meanDepthBits_0 0 rfl ?_
  refine r_get C clX2 dX2_meanDepthBits_1 0 0 rfl (by decide) q_121 rfl ?_
  refine r_get C clX1 dX2_meanDepthBits_4 1 3 rfl (by decide) q_63 rfl ?_
  refine r_istore_n C dX2_meanDepthBits_7 (lv2 := [(1, .int (nI nl)), (0, .ref x0)]) (by decide) rfl ?_
  refine r_iload_n C dX2_meanDepthBits_8 0 rfl ?_
  refine r_iconst C dX2_meanDepthBits_9 (v := 1) (by decide) ?_
  refine r_icmp_ge C dX2_meanDepthBits_10 (tgt := 15) (by decide) (fun c_1 => ?_) (fun c_1 => ?_)
  · exact absurd c_1 (by rw [hnl]; decide)
  · refine r_iconst C dX2_meanDepthBits_13 (v := 0) (by decide) ?_
    exact r_iret C E dX2_meanDepthBits_14 (nle rfl) (nle rfl) ⟨rfl, rfl⟩
set_option maxHeartbeats 4000000 in
set_option maxRecDepth 100000 in
/-- meanDepthBits() -/
theorem c_X2_meanDepthBits_ok (l : Launch) (D : va_G) (cI cR : ClassId) (x0 : Nat) (s0 : Nat) (p0 : Nat) (g0 : Nat) (e0 : Nat) (sc : Nat) (h0 : Nat) (a1 : Nat) (a2 : Nat) (a3 : Nat) (d : Nat → Int32) (nl : Nat) (va : Int32) (sg : Int32) (pr : Nat) (sn : Int32) (wk : Int32) (S : Nat) (hnl : nl ≤ 10) (hn1 : 1 ≤ nl) (hS : dsF d nl = nI S) (hok : boK (mnF S nl) = true) (h32 : vf_n32 (mnF S nl)) : Ctr l D cI cR yX2_meanDepthBits cX2_meanDepthBits 2 ((some .int)) ({ frames := 1, cells := 0, slots := 0, locals := 22 }) [.ref x0] [(x0, .inr (2, [.ref h0, .ref s0, .ref p0, .ref g0, .ref e0, .int (nI sc)])), (h0, .inr (1, [.ref a1, .ref a2, .ref a3, .int (nI nl), .int va, .int sg, .int (nI pr), .int sn, .int wk])), (a1, .inl (cI, 10, .inl d))] (rP (some (.int (boF (mnF S nl)))) [(x0, .inr (2, [.ref h0, .ref s0, .ref p0, .ref g0, .ref e0, .int (nI sc)])), (h0, .inr (1, [.ref a1, .ref a2, .ref a3, .int (nI nl), .int va, .int sg, .int (nI pr), .int sn, .int wk])), (a1, .inl (cI, 10, .inl d))]) := by
  refine ctr_of (lv0 := [(0, .ref x0)]) (by decide) (nle rfl) rfl (fun G C E => ?_)
  refine r_aload_n C dX2_meanDepthBits_0 0 rfl ?_
  refine r_get C clX2 dX2_meanDepthBits_1 0 0 rfl (by decide) q_121 rfl ?_
  refine r_get C clX1 dX2_meanDepthBits_4 1 3 rfl (by decide) q_63 rfl ?_
  refine r_istore_n C dX2_meanDepthBits_7 (lv2 := [(1, .int (nI nl)), (0, .ref x0)]) (by decide) rfl ?_
  refine r_iload_n C dX2_meanDepthBits_8 0 rfl ?_
  refine r_iconst C dX2_meanDepthBits_9 (v := 1) (by decide) ?_
  refine r_icmp_ge C dX2_meanDepthBits_10 (tgt := 15) (by decide) (fun c_1 => ?_) (fun c_1 => ?_)
  · have n_2 := (nI_leI (a := 1) (b := nl) (by omega) (by omega)).mp c_1
    refine r_aload_n C dX2_meanDepthBits_15 1 rfl ?_
    refine r_get C clX2 dX2_meanDepthBits_16 0 0 rfl (by decide) q_121 rfl ?_
    refine r_callV C (As := []) (rest := []) (wr := [(x0, .inr (2, [.ref h0, .ref s0, .ref p0, .ref g0, .ref e0, .int (nI sc)]))]) (c_X1_depthSum l D cI cR h0 a1 a2 a3 d nl va sg pr sn wk (by first | assumption | omega)) k_X1_depthSum rfl dX2_meanDepthBits_19 q_248 q_249 q_250 ⟨nle rfl, nle rfl⟩ [1, 2] [0] rfl rfl rfl rfl (by decide) 0 rfl rfl rfl (nle rfl) ⟨nle rfl, nle rfl⟩ (r_fin (st2 := [.int (dsF d nl)]) (ws2 := [(x0, .inr (2, [.ref h0, .ref s0, .ref p0, .ref g0, .ref e0, .int (nI sc)])), (h0, .inr (1, [.ref a1, .ref a2, .ref a3, .int (nI nl), .int va, .int sg, .int (nI pr), .int sn, .int wk])), (a1, .inl (cI, 10, .inl d))]) rfl rfl ?_)
    refine r_top (b := nI S) hS ?_
    refine r_i2f C dX2_meanDepthBits_22 ?_
    refine r_iload_n C dX2_meanDepthBits_23 0 rfl ?_
    refine r_i2f C dX2_meanDepthBits_24 ?_
    refine r_fdiv C dX2_meanDepthBits_25 h32 ?_
    refine r_callS C (As := [.float (FP.fdiv (FP.i2f (nI S)) (FP.i2f (nI nl)))]) (rest := []) (wr := [(x0, .inr (2, [.ref h0, .ref s0, .ref p0, .ref g0, .ref e0, .int (nI sc)])), (h0, .inr (1, [.ref a1, .ref a2, .ref a3, .int (nI nl), .int va, .int sg, .int (nI pr), .int sn, .int wk])), (a1, .inl (cI, 10, .inl d))]) (c_X2_bitsOf l D cI cR (FP.fdiv (FP.i2f (nI S)) (FP.i2f (nI nl))) hok) k_X2_bitsOf rfl dX2_meanDepthBits_26 q_252 q_253 ⟨nle rfl, nle rfl⟩ [] [0, 1, 2] rfl rfl rfl rfl (by decide) rfl (nle rfl) ⟨nle rfl, nle rfl⟩ (r_fin (st2 := [.int (boF (FP.fdiv (FP.i2f (nI S)) (FP.i2f (nI nl))))]) (ws2 := [(x0, .inr (2, [.ref h0, .ref s0, .ref p0, .ref g0, .ref e0, .int (nI sc)])), (h0, .inr (1, [.ref a1, .ref a2, .ref a3, .int (nI nl), .int va, .int sg, .int (nI pr), .int sn, .int wk])), (a1, .inl (cI, 10, .inl d))]) rfl rfl ?_)
    exact r_iret C E dX2_meanDepthBits_29 (nle rfl) (nle rfl) ⟨rfl, rfl⟩
  · have n_2 := mt (nI_leI (a := 1) (b := nl) (by omega) (by omega)).mpr c_1
    omega
set_option maxHeartbeats 4000000 in
set_option maxRecDepth 100000 in
/-- meanDepthBits(), no lines -/
theorem c_X3_meanDepthBits_no (l : Launch) (D : va_G) (cI cR : ClassId) (m0 : Nat) (n0 : Nat) (q0 : Nat) (sv : Nat) (r0 : Nat) (t0 : Nat) (w0 : Nat) (u0 : Nat) (v0 : Nat) (y0 : Nat) (tm : Int32) (hs : Int64) (nw : Nat → Int32) (nl : Nat) (e0 : nw 0 = nI nl) (hnl : nl = 0) : Ctr l D cI cR yX3_meanDepthBits cX3_meanDepthBits 3 ((some .int)) ({ frames := 2, cells := 0, slots := 0, locals := 46 }) [.ref m0] [(m0, .inr (3, [.ref n0, .ref q0, .int (nI sv), .ref r0, .ref t0, .ref w0, .ref u0, .ref v0, .ref y0, .int tm, .long hs])), (n0, .inl (cI, 148, .inl nw))] (rP (some (.int FP.fconst0.toInt32)) [(m0, .inr (3, [.ref n0, .ref q0, .int (nI sv), .ref r0, .ref t0, .ref w0, .ref u0, .ref v0, .ref y0, .int tm, .long hs])), (n0, .inl (cI, 148, .inl nw))]) := by
  refine ctr_of (lv0 := [(0, .ref m0)]) (by decide) (nle rfl) rfl (fun G C E => ?_)
  refine r_iconst C dX3_meanDepthBits_0 (v := 0) (by decide) ?_
  refine r_istore_n C dX3_meanDepthBits_1 (lv2 := [(1, .int 0), (0, .ref m0)]) (by decide) rfl ?_
  refine r_iconst C dX3_meanDepthBits_2 (v := 0) (by decide) ?_
  refine r_istore_n C dX3_meanDepthBits_3 (lv2 := [(2, .int 0), (1, .int 0), (0, .ref m0)]) (by decide) rfl ?_
  have L_4 : ∀ (z i : Nat), i ≤ nl → nl < i + z → ∀ (sm : Int32), sm = smF nw i → Wr G 0 0 4 [(2, .int (nI i)), (1, .int sm), (0, .ref m0)] [] [(m0, .inr (3, [.ref n0, .ref q0, .int (nI sv), .ref r0, .ref t0, .ref w0, .ref u0, .ref v0, .ref y0, .int tm, .long hs])), (n0, .inl (cI, 148, .inl nw))] := by
    intro z
    induction z with
    | zero => intro i h1 h2; exact absurd h2 (by omega)
    | succ z ih_4 =>
      intro i hi_4 hz_4 sm e_sm
      refine r_iload_n C dX3_meanDepthBits_4 0 rfl ?_
      refine r_aload_n C dX3_meanDepthBits_5 2 rfl ?_
      refine r_get C clX3 dX3_meanDepthBits_6 0 0 rfl (by decide) q_399 rfl ?_
      refine r_iconst C dX3_meanDepthBits_9 (v := 0) (by decide) ?_
      refine r_iald C dX3_meanDepthBits_10 1 rfl 0 rfl (by decide) (by decide) ?_
      refine r_top (b := nI nl) e0 ?_
      refine r_icmp_ge C dX3_meanDepthBits_11 (tgt := 32) (by decide) (fun c_1 => ?_) (fun c_1 => ?_)
      · have n_2 := (nI_leI (a := nl) (b := i) (by omega) (by omega)).mp c_1
        have ex_4 : nl = i := by omega
        subst ex_4
        subst e_sm
        refine r_aload_n C dX3_meanDepthBits_32 2 rfl ?_
        refine r_get C clX3 dX3_meanDepthBits_33 0 0 rfl (by decide) q_399 rfl ?_
        refine r_iconst C dX3_meanDepthBits_36 (v := 0) (by decide) ?_
        refine r_iald C dX3_meanDepthBits_37 1 rfl 0 rfl (by decide) (by decide) ?_
        refine r_top (b := nI nl) e0 ?_
        refine r_if_ne C dX3_meanDepthBits_38 (tgt := 45) (by decide) (fun c_3 => ?_) (fun c_3 => ?_)
        · have n_4 := mt (nI_eq (a := nl) (b := 0) (by omega) (by omega)).mpr c_3
          omega
        · have n_4 := (nI_eq (a := nl) (b := 0) (by omega) (by omega)).mp c_3
          refine r_fconst0 C dX3_meanDepthBits_41 ?_
          refine r_goto C dX3_meanDepthBits_42 (tgt := 55) (by decide) ?_
          refine r_callS C (As := [.float FP.fconst0]) (rest := []) (wr := [(m0, .inr (3, [.ref n0, .ref q0, .int (nI sv), .ref r0, .ref t0, .ref w0, .ref u0, .ref v0, .ref y0, .int tm, .long hs])), (n0, .inl (cI, 148, .inl nw))]) (c_Jxf58ca_floatToIntBits_5c35a l D cI cR FP.fconst0 (by decide +kernel)) k_Jxf58ca_floatToIntBits_5c35a rfl dX3_meanDepthBits_55 q_499 q_500 ⟨nle rfl, nle rfl⟩ [] [0, 1] rfl rfl rfl rfl (by decide) rfl (nle rfl) ⟨nle rfl, nle rfl⟩ (r_fin (st2 := [.int FP.fconst0.toInt32]) (ws2 := [(m0, .inr (3, [.ref n0, .ref q0, .int (nI sv), .ref r0, .ref t0, .ref w0, .ref u0, .ref v0, .ref y0, .int tm, .long hs])), (n0, .inl (cI, 148, .inl nw))]) rfl rfl ?_)
          exact r_iret C E dX3_meanDepthBits_58 (nle rfl) (nle rfl) ⟨rfl, rfl⟩
      · have n_2 := mt (nI_leI (a := nl) (b := i) (by omega) (by omega)).mpr c_1
        refine r_iload_n C dX3_meanDepthBits_14 1 rfl ?_
        refine r_aload_n C dX3_meanDepthBits_15 2 rfl ?_
        refine r_get C clX3 dX3_meanDepthBits_16 0 0 rfl (by decide) q_399 rfl ?_
        refine r_bipush C dX3_meanDepthBits_19 (v := 6) (by decide) ?_
        refine r_iload_n C dX3_meanDepthBits_21 0 rfl ?_
        refine r_iadd C dX3_meanDepthBits_22 ?_
        refine r_top (b := nI (6 + i)) (nA rfl rfl) ?_
        refine r_iald C dX3_meanDepthBits_23 1 rfl (6 + i) rfl (by omega) (by decide) ?_
        refine r_iadd C dX3_meanDepthBits_24 ?_
        refine r_istore_n C dX3_meanDepthBits_25 (lv2 := [(1, .int (sm + (nw (6 + i)))), (2, .int (nI i)), (0, .ref m0)]) (by decide) rfl ?_
        refine r_iinc C dX3_meanDepthBits_26 1 rfl (v := nI (i + 1)) (nI_1 _) (by decide) (lv2 := [(2, .int (nI (i + 1))), (1, .int (sm + (nw (6 + i)))), (0, .ref m0)]) rfl ?_
        refine r_goto C dX3_meanDepthBits_29 (tgt := 4) (by decide) ?_
        exact ih_4 (i + 1) (by omega) (by omega) _ (by subst e_sm; rfl) 
  exact L_4 (nl + 1) 0 (by omega) (by omega) _ rfl 
set_option maxHeartbeats 4000000 in
set_option maxRecDepth 100000 in
/-- meanDepthBits() -/
theorem c_X3_meanDepthBits_ok (l : Launch) (D : va_G) (cI cR : ClassId) (m0 : Nat) (n0 : Nat) (q0 : Nat) (sv : Nat) (r0 : Nat) (t0 : Nat) (w0 : Nat) (u0 : Nat) (v0 : Nat) (y0 : Nat) (tm : Int32) (hs : Int64) (nw : Nat → Int32) (nl : Nat) (S : Nat) (e0 : nw 0 = nI nl) (hnl : nl ≤ 10) (hn1 : 1 ≤ nl) (hS : smF nw nl = nI S) (h32 : vf_n32 (mnF S nl)) (hnn : cmL (mnF S nl) (mnF S nl) = 0) : Ctr l D cI cR yX3_meanDepthBits cX3_meanDepthBits 3 ((some .int)) ({ frames := 2, cells := 0, slots := 0, locals := 46 }) [.ref m0] [(m0, .inr (3, [.ref n0, .ref q0, .int (nI sv), .ref r0, .ref t0, .ref w0, .ref u0, .ref v0, .ref y0, .int tm, .long hs])), (n0, .inl (cI, 148, .inl nw))] (rP (some (.int ((mnF S nl).toInt32))) [(m0, .inr (3, [.ref n0, .ref q0, .int (nI sv), .ref r0, .ref t0, .ref w0, .ref u0, .ref v0, .ref y0, .int tm, .long hs])), (n0, .inl (cI, 148, .inl nw))]) := by
  refine ctr_of (lv0 := [(0, .ref m0)]) (by decide) (nle rfl) rfl (fun G C E => ?_)
  refine r_iconst C dX3_meanDepthBits_0 (v := 0) (by decide) ?_
  refine r_istore_n C dX3_meanDepthBits_1 (lv2 := [(1, .int 0), (0, .ref m0)]) (by decide) rfl ?_
  refine r_iconst C dX3_meanDepthBits_2 (v := 0) (by decide) ?_
  refine r_istore_n C dX3_meanDepthBits_3 (lv2 := [(2, .int 0), (1, .int 0), (0, .ref m0)]) (by decide) rfl ?_
  have L_4 : ∀ (z i : Nat), i ≤ nl → nl < i + z → ∀ (sm : Int32), sm = smF nw i → Wr G 0 0 4 [(2, .int (nI i)), (1, .int sm), (0, .ref m0)] [] [(m0, .inr (3, [.ref n0, .ref q0, .int (nI sv), .ref r0, .ref t0, .ref w0, .ref u0, .ref v0, .ref y0, .int tm, .long hs])), (n0, .inl (cI, 148, .inl nw))] := by
    intro z
    induction z with
    | zero => intro i h1 h2; exact absurd h2 (by omega)
    | succ z ih_4 =>
      intro i hi_4 hz_4 sm e_sm
      refine r_iload_n C dX3_meanDepthBits_4 0 rfl ?_
      refine r_aload_n C dX3_meanDepthBits_5 2 rfl ?_
      refine r_get C clX3 dX3_meanDepthBits_6 0 0 rfl (by decide) q_399 rfl ?_
      refine r_iconst C dX3_meanDepthBits_9 (v := 0) (by decide) ?_
      refine r_iald C dX3_meanDepthBits_10 1 rfl 0 rfl (by decide) (by decide) ?_
      refine r_top (b := nI nl) e0 ?_
      refine r_icmp_ge C dX3_meanDepthBits_11 (tgt := 32) (by decide) (fun c_1 => ?_) (fun c_1 => ?_)
      · have n_2 := (nI_leI (a := nl) (b := i) (by omega) (by omega)).mp c_1
        have ex_4 : nl = i := by omega
        subst ex_4
        subst e_sm
        refine r_aload_n C dX3_meanDepthBits_32 2 rfl ?_
        refine r_get C clX3 dX3_meanDepthBits_33 0 0 rfl (by decide) q_399 rfl ?_
        refine r_iconst C dX3_meanDepthBits_36 (v := 0) (by decide) ?_
        refine r_iald C dX3_meanDepthBits_37 1 rfl 0 rfl (by decide) (by decide) ?_
        refine r_top (b := nI nl) e0 ?_
        refine r_if_ne C dX3_meanDepthBits_38 (tgt := 45) (by decide) (fun c_3 => ?_) (fun c_3 => ?_)
        · have n_4 := mt (nI_eq (a := nl) (b := 0) (by omega) (by omega)).mpr c_3
          refine r_iload_n C dX3_meanDepthBits_45 1 rfl ?_
          refine r_top (b := nI S) hS ?_
          refine r_i2f C dX3_meanDepthBits_46 ?_
          refine r_aload_n C dX3_meanDepthBits_47 2 rfl ?_
          refine r_get C clX3 dX3_meanDepthBits_48 0 0 rfl (by decide) q_399 rfl ?_
          refine r_iconst C dX3_meanDepthBits_51 (v := 0) (by decide) ?_
          refine r_iald C dX3_meanDepthBits_52 1 rfl 0 rfl (by decide) (by decide) ?_
          refine r_top (b := nI nl) e0 ?_
          refine r_i2f C dX3_meanDepthBits_53 ?_
          refine r_fdiv C dX3_meanDepthBits_54 h32 ?_
          refine r_callS C (As := [.float (FP.fdiv (FP.i2f (nI S)) (FP.i2f (nI nl)))]) (rest := []) (wr := [(m0, .inr (3, [.ref n0, .ref q0, .int (nI sv), .ref r0, .ref t0, .ref w0, .ref u0, .ref v0, .ref y0, .int tm, .long hs])), (n0, .inl (cI, 148, .inl nw))]) (c_Jxf58ca_floatToIntBits_5c35a l D cI cR (FP.fdiv (FP.i2f (nI S)) (FP.i2f (nI nl))) hnn) k_Jxf58ca_floatToIntBits_5c35a rfl dX3_meanDepthBits_55 q_499 q_500 ⟨nle rfl, nle rfl⟩ [] [0, 1] rfl rfl rfl rfl (by decide) rfl (nle rfl) ⟨nle rfl, nle rfl⟩ (r_fin (st2 := [.int ((FP.fdiv (FP.i2f (nI S)) (FP.i2f (nI nl))).toInt32)]) (ws2 := [(m0, .inr (3, [.ref n0, .ref q0, .int (nI sv), .ref r0, .ref t0, .ref w0, .ref u0, .ref v0, .ref y0, .int tm, .long hs])), (n0, .inl (cI, 148, .inl nw))]) rfl rfl ?_)
          exact r_iret C E dX3_meanDepthBits_58 (nle rfl) (nle rfl) ⟨rfl, rfl⟩
        · have n_4 := (nI_eq (a := nl) (b := 0) (by omega) (by omega)).mp c_3
          omega
      · have n_2 := mt (nI_leI (a := nl) (b := i) (by omega) (by omega)).mpr c_1
        refine r_iload_n C dX3_meanDepthBits_14 1 rfl ?_
        refine r_aload_n C dX3_meanDepthBits_15 2 rfl ?_
        refine r_get C clX3 dX3_meanDepthBits_16 0 0 rfl (by decide) q_399 rfl ?_
        refine r_bipush C dX3_meanDepthBits_19 (v := 6) (by decide) ?_
        refine r_iload_n C dX3_meanDepthBits_21 0 rfl ?_
        refine r_iadd C dX3_meanDepthBits_22 ?_
        refine r_top (b := nI (6 + i)) (nA rfl rfl) ?_
        refine r_iald C dX3_meanDepthBits_23 1 rfl (6 + i) rfl (by omega) (by decide) ?_
        refine r_iadd C dX3_meanDepthBits_24 ?_
        refine r_istore_n C dX3_meanDepthBits_25 (lv2 := [(1, .int (sm + (nw (6 + i)))), (2, .int (nI i)), (0, .ref m0)]) (by decide) rfl ?_
        refine r_iinc C dX3_meanDepthBits_26 1 rfl (v := nI (i + 1)) (nI_1 _) (by decide) (lv2 := [(2, .int (nI (i + 1))), (1, .int (sm + (nw (6 + i)))), (0, .ref m0)]) rfl ?_
        refine r_goto C dX3_meanDepthBits_29 (tgt := 4) (by decide) ?_
        exact ih_4 (i + 1) (by omega) (by omega) _ (by subst e_sm; rfl) 
  exact L_4 (nl + 1) 0 (by omega) (by omega) _ rfl 
