theorem q_CF : Cond.constantFloat "EtchedPlate" 160 1258291200 ∈ lw_g := q_255
theorem q_RfN : Cond.native ⟨"java/lang/Float", "floatToRawIntBits", "(F)I"⟩ ∈ lw_g := q_507
theorem q_RfS : Cond.static ⟨"java/lang/Float", "floatToRawIntBits", "(F)I"⟩ ∈ lw_g := q_506
theorem q_FI : Cond.initialized "java/lang/Float" ∈ lw_g := q_40
/-! floats: the class's bits by hand, the reference's by the machine; by trying every mean -/
abbrev cmG (x y : UInt32) : Int32 := Op.cmpValue (FP.fcmp x y) CmpOp.g
abbrev cmL (x y : UInt32) : Int32 := Op.cmpValue (FP.fcmp x y) CmpOp.l
def boR : Nat → UInt32 → Nat → UInt32 × Nat
  | 0, x, e => (x, e)
  | z + 1, x, e => if cmL x FP.fconst2 < 0 then (x, e) else if 254 ≤ e then (x, e) else boR z (FP.fdiv x FP.fconst2) (e + 1)
def boO : Nat → UInt32 → Nat → Bool
  | 0, _, _ => false
  | z + 1, x, e => if cmL x FP.fconst2 < 0 then true else if 254 ≤ e then true else (decide (FP.fdiv x FP.fconst2 &&& 0x7fffffff ≤ 0x7f800000) && boO z (FP.fdiv x FP.fconst2) (e + 1))
def bpR : Nat → UInt32 → Nat → UInt32 × Nat
  | 0, x, e => (x, e)
  | z + 1, x, e => if 0 ≤ cmG x FP.fconst1 then (x, e) else if e ≤ 1 then (x, e) else bpR z (FP.fmul x FP.fconst2) (e - 1)
def bpO : Nat → UInt32 → Nat → Bool
  | 0, _, _ => false
  | z + 1, x, e => if 0 ≤ cmG x FP.fconst1 then true else if e ≤ 1 then true else (decide (FP.fmul x FP.fconst2 &&& 0x7fffffff ≤ 0x7f800000) && bpO z (FP.fmul x FP.fconst2) (e - 1))
def boE (T : UInt32 × Nat) : Int32 := (nI T.2 <<< (23 &&& 31)) + FP.f2i (FP.fmul (FP.fsub T.1 FP.fconst1) 1258291200)
def boF (v : UInt32) : Int32 := if 0 < cmG v FP.fconst0 then boE (bpR 20 (boR 20 v 127).1 (boR 20 v 127).2) else 0
def boK1 (v : UInt32) : Bool := boO 20 v 127 && decide ((boR 20 v 127).2 ≤ 254) && bpO 20 (boR 20 v 127).1 (boR 20 v 127).2 && decide (FP.fsub (bpR 20 (boR 20 v 127).1 (boR 20 v 127).2).1 FP.fconst1 &&& 0x7fffffff ≤ 0x7f800000) && decide (FP.fmul (FP.fsub (bpR 20 (boR 20 v 127).1 (boR 20 v 127).2).1 FP.fconst1) 1258291200 &&& 0x7fffffff ≤ 0x7f800000)
def boK (v : UInt32) : Bool := !decide (0 < cmG v FP.fconst0) || boK1 v
theorem bo_le : ∀ (z : Nat) (x : UInt32) (e : Nat), e ≤ 254 → (boR z x e).2 ≤ 254
  | 0, x, e, h => h
  | z + 1, x, e, h => by
    rw [boR]
    split
    · exact h
    · split
      · exact h
      · exact bo_le z _ _ (by omega)
set_option maxHeartbeats 4000000 in
set_option maxRecDepth 100000 in
/-- bitsOf(value) -/
theorem c_X2_bitsOf (l : Launch) (D : va_G) (cI cR : ClassId) (v : UInt32) (hok : boK v = true) : Ctr l D cI cR yX2_bitsOf cX2_bitsOf 3 (some .int) ({ frames := 0, cells := 0, slots := 0, locals := 0 }) [.float v] [] (rP (some (.int (boF v))) []) := by
  refine ctr_of (lv0 := [(0, .float v)]) (by decide) (nle rfl) rfl (fun G C E => ?_)
  refine r_fload_n C dX2_bitsOf_0 0 rfl ?_
  refine r_fconst0 C dX2_bitsOf_1 ?_
  refine r_fcmp C dX2_bitsOf_2 ?_
  refine r_if_gt C dX2_bitsOf_3 (tgt := 8) (by decide) (fun hp => ?_) (fun hp => ?_)
  · have e0 : boF v = boE (bpR 20 (boR 20 v 127).1 (boR 20 v 127).2) := if_pos hp
    have hok : boK1 v = true := by
      rw [boK] at hok
      simpa [hp] using hok
    rw [boK1] at hok
    simp only [Bool.and_eq_true, decide_eq_true_eq] at hok
    obtain ⟨⟨⟨⟨k1, k2⟩, k3⟩, k4⟩, k5⟩ := hok
    rw [e0] at E
    generalize hT : boR 20 v 127 = T at k2 k3 k4 k5 E
    refine r_fload_n C dX2_bitsOf_8 0 rfl ?_
    refine r_fstore_n C dX2_bitsOf_9 (lv2 := [(1, .float v), (0, .float v)]) (by decide) rfl ?_
    refine r_bipush C dX2_bitsOf_10 (v := 127) (by decide) ?_
    refine r_istore_n C dX2_bitsOf_12 (lv2 := [(2, .int 127), (1, .float v), (0, .float v)]) (by decide) rfl ?_
    have L36 : ∀ (z : Nat) (x : UInt32) (e : Nat), bpO z x e = true → bpR z x e = bpR 20 T.1 T.2 → e ≤ 254 → Wr G 0 0 36 [(2, .int (nI e)), (1, .float x), (0, .float v)] [] [] := by
      intro z
      generalize bpR 20 T.1 T.2 = S at k4 k5 E
      induction z with
      | zero => intro x e h; cases h
      | succ z ih =>
        intro x e h1 h2 h3
        rw [bpO] at h1
        rw [bpR] at h2
        have fin : (x, e) = S → Wr G 0 0 57 [(2, .int (nI e)), (1, .float x), (0, .float v)] [] [] := by
          rintro rfl
          refine r_iload_n C dX2_bitsOf_57 0 rfl ?_
          refine r_bipush C dX2_bitsOf_58 (v := 23) (by decide) ?_
          refine r_ishl C dX2_bitsOf_60 ?_
          refine r_fload_n C dX2_bitsOf_61 1 rfl ?_
          refine r_fconst1 C dX2_bitsOf_62 ?_
          refine r_fsub C dX2_bitsOf_63 k4 ?_
          refine r_ldcf C dX2_bitsOf_64 (v := 1258291200) q_CF ?_
          refine r_fmul C dX2_bitsOf_66 k5 ?_
          refine r_f2i C dX2_bitsOf_67 ?_
          refine r_iadd C dX2_bitsOf_68 ?_
          exact r_iret C E dX2_bitsOf_69 (nle rfl) (nle rfl) ⟨rfl, rfl⟩
        refine r_fload_n C dX2_bitsOf_36 1 rfl ?_
        refine r_fconst1 C dX2_bitsOf_37 ?_
        refine r_fcmp C dX2_bitsOf_38 ?_
        refine r_if_ge C dX2_bitsOf_39 (tgt := 57) (by decide) (fun c1 => ?_) (fun c1 => ?_)
        · rw [if_pos c1] at h2
          exact fin h2
        · rw [if_neg c1] at h1 h2
          refine r_iload_n C dX2_bitsOf_42 0 rfl ?_
          refine r_iconst C dX2_bitsOf_43 (v := 1) (by decide) ?_
          refine r_icmp_le C dX2_bitsOf_44 (tgt := 57) (by decide) (fun c2 => ?_) (fun c2 => ?_)
          · have n2 : e ≤ 1 := (nI_leI (a := e) (b := 1) (by omega) (by omega)).mp c2
            rw [if_pos n2] at h2
            exact fin h2
          · have n2 : ¬ e ≤ 1 := mt (nI_leI (a := e) (b := 1) (by omega) (by omega)).mpr c2
            rw [if_neg n2] at h1 h2
            simp only [Bool.and_eq_true, decide_eq_true_eq] at h1
            refine r_fload_n C dX2_bitsOf_47 1 rfl ?_
            refine r_fconst2 C dX2_bitsOf_48 ?_
            refine r_fmul C dX2_bitsOf_49 h1.1 ?_
            refine r_fstore_n C dX2_bitsOf_50 (lv2 := [(1, .float (FP.fmul x FP.fconst2)), (2, .int (nI e)), (0, .float v)]) (by decide) rfl ?_
            refine r_iinc C dX2_bitsOf_51 1 rfl (v := nI (e - 1)) (by rw [show e = (e - 1) + 1 by omega]; exact pk_m1 (e - 1)) (by decide) (lv2 := [(2, .int (nI (e - 1))), (1, .float (FP.fmul x FP.fconst2)), (0, .float v)]) rfl ?_
            refine r_goto C dX2_bitsOf_54 (tgt := 36) (by decide) ?_
            exact ih _ _ h1.2 h2 (by omega)
    have L13 : ∀ (z : Nat) (x : UInt32) (e : Nat), boO z x e = true → boR z x e = T → e ≤ 254 → Wr G 0 0 13 [(2, .int (nI e)), (1, .float x), (0, .float v)] [] [] := by
      intro z
      induction z with
      | zero => intro x e h; cases h
      | succ z ih =>
        intro x e h1 h2 h3
        rw [boO] at h1
        rw [boR] at h2
        have fin : (x, e) = T → Wr G 0 0 36 [(2, .int (nI e)), (1, .float x), (0, .float v)] [] [] := by
          rintro rfl
          exact L36 20 x e k3 rfl h3
        refine r_fload_n C dX2_bitsOf_13 1 rfl ?_
        refine r_fconst2 C dX2_bitsOf_14 ?_
        refine r_fcmp C dX2_bitsOf_15 ?_
        refine r_if_lt C dX2_bitsOf_16 (tgt := 36) (by decide) (fun c1 => ?_) (fun c1 => ?_)
        · rw [if_pos c1] at h2
          exact fin h2
        · rw [if_neg c1] at h1 h2
          refine r_iload_n C dX2_bitsOf_19 0 rfl ?_
          refine r_sipush C dX2_bitsOf_20 (v := 254) (by decide) ?_
          refine r_icmp_ge C dX2_bitsOf_23 (tgt := 36) (by decide) (fun c2 => ?_) (fun c2 => ?_)
          · have n2 : 254 ≤ e := (nI_leI (a := 254) (b := e) (by omega) (by omega)).mp c2
            rw [if_pos n2] at h2
            exact fin h2
          · have n2 : ¬ 254 ≤ e := mt (nI_leI (a := 254) (b := e) (by omega) (by omega)).mpr c2
            rw [if_neg n2] at h1 h2
            simp only [Bool.and_eq_true, decide_eq_true_eq] at h1
            refine r_fload_n C dX2_bitsOf_26 1 rfl ?_
            refine r_fconst2 C dX2_bitsOf_27 ?_
            refine r_fdiv C dX2_bitsOf_28 h1.1 ?_
            refine r_fstore_n C dX2_bitsOf_29 (lv2 := [(1, .float (FP.fdiv x FP.fconst2)), (2, .int (nI e)), (0, .float v)]) (by decide) rfl ?_
            refine r_iinc C dX2_bitsOf_30 1 rfl (v := nI (e + 1)) (nI_1 _) (by decide) (lv2 := [(2, .int (nI (e + 1))), (1, .float (FP.fdiv x FP.fconst2)), (0, .float v)]) rfl ?_
            refine r_goto C dX2_bitsOf_33 (tgt := 13) (by decide) ?_
            exact ih _ _ h1.2 h2 (by omega)
    exact L13 20 v 127 k1 hT (by omega)
  · have e0 : boF v = 0 := if_neg hp
    rw [e0] at E
    refine r_iconst C dX2_bitsOf_6 (v := 0) (by decide) ?_
    exact r_iret C E dX2_bitsOf_7 (nle rfl) (nle rfl) ⟨rfl, rfl⟩
theorem r_rawf {G : Cxt} {l : Launch} {R : Room} {D : va_G} {cI cR : ClassId} {cc : ByteArray} {nL : Nat} {y : MethodName} {k n pc pc2 : Nat} {lv : List (Nat × Value)} {st : List Value} {ws : va_W} (C : Ok G l R D cI cR cc nL y) {index : Nat} {b : UInt32} (hd : Dc cc pc 3 pc2 (.invokestatic index)) (hq1 : Cond.methodLink y.cls index ⟨"java/lang/Float", "floatToRawIntBits", "(F)I"⟩ ∈ lw_g) (hf : 1 ≤ R.frames) (hlo : (st.map fun v => v.category).sum + 15 ≤ R.locals) (kk : Wr G k n pc2 lv (.int b.toInt32 :: st) ws) : Wr G k n pc lv (.float b :: st) ws := by
  obtain ⟨p, l, e, R, s, m, args, below, meth, c, D, cI, cR, A, nL, Q⟩ := G
  obtain ⟨⟨rfl, rfl, rfl, rfl, rfl, rfl⟩, hx, hb, hts, hown, hK, hml, hlocks, hA, hN', hmn⟩ := C
  obtain ⟨hd, rfl⟩ := hd
  intro H locs ls hP hD hS hl
  exact vn_f2i hx hb (by rw [hml]; exact hl.1.symm) hown (hts _ hq1) (hts _ q_RfN) (hts _ q_RfS) (hts _ q_FI) hf hlo hd (kk H locs ls hP hD hS hl)
def smF (nw : Nat → Int32) : Nat → Int32
  | 0 => 0
  | i + 1 => smF nw i + nw (6 + i)
/-- the mean, as both sides make it -/
def mnF (S n : Nat) : UInt32 := FP.fdiv (FP.i2f (nI S)) (FP.i2f (nI n))
def mnT (n : Nat) : Bool := (List.range 991).all fun S => boK (mnF S n) && decide (mnF S n &&& 0x7fffffff ≤ 0x7f800000) && decide (cmL (mnF S n) (mnF S n) = 0) && decide (boF (mnF S n) = (mnF S n).toInt32)
