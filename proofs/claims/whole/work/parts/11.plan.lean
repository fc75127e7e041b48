/-! the class EtchedPlate$Plan: what its methods do, as functions -/
theorem ne0 {s : Int32} (h : 1 ≤ s) : ¬ s = 0 := by rintro rfl; exact absurd h (by decide)
def fwF (gx sx : Int32) : Int32 := if gx ≤ 0 then 0 else if 1 ≤ sx then (gx + sx - 1) / sx else 0
def msF (gx sx : Int32) : Int32 := if gx < 0 then -1 else if 1 ≤ sx then (if gx / sx < 99 then gx / sx else 99) else -1
def nxF (fe mo : Nat → Int32) (la : Int32) : Nat → Int32
  | 0 => -1
  | i + 1 => if fe i ≤ la then nxF fe mo la i else if nxF fe mo la i = -1 then mo i else if nxF fe mo la i ≤ mo i then nxF fe mo la i else mo i
def chL (fe mo : Nat → Int32) (ml : Nat) : Nat → Int32
  | 0 => 0
  | i + 1 => nxF fe mo (chL fe mo ml i) ml
def chA (fe mo : Nat → Int32) (ml : Nat) (to : Nat → Int32) : Nat → Nat → Int32
  | 0 => to
  | i + 1 => upd (chA fe mo ml to i) i (nxF fe mo (chL fe mo ml i) ml)
/-- the first place from i on with p, at most z places on -/
def fsN (p : Nat → Bool) : Nat → Nat → Nat
  | 0, i => i
  | z + 1, i => if p i then i else fsN p z (i + 1)
def chN (fe mo : Nat → Int32) (ml : Nat) : Nat := fsN (fun k => decide (nxF fe mo (chL fe mo ml k) ml = -1)) ml 0
theorem fsN_hit {p : Nat → Bool} {i : Nat} (hp : p i = true) : ∀ (z a : Nat), a ≤ i → i < a + z → (∀ k, k < i → p k = false) → fsN p z a = i
  | 0, a, h1, h2, _ => absurd h2 (by omega)
  | z + 1, a, h1, h2, h3 => by
    rw [fsN]
    by_cases e : a = i
    · subst e; rw [if_pos hp]
    · rw [h3 a (by omega), if_neg (by decide)]
      exact fsN_hit hp z (a + 1) (by omega) (by omega) h3
theorem fsN_all {p : Nat → Bool} {n : Nat} : ∀ (z a : Nat), a + z = n → (∀ k, k < n → p k = false) → fsN p z a = n
  | 0, a, h1, _ => by rw [fsN]; omega
  | z + 1, a, h1, h3 => by
    rw [fsN, h3 a (by omega), if_neg (by decide)]
    exact fsN_all z (a + 1) (by omega) h3
theorem fsN_le (p : Nat → Bool) : ∀ (z a : Nat), fsN p z a ≤ a + z
  | 0, a => Nat.le_refl _
  | z + 1, a => by
    rw [fsN]
    split
    · omega
    · have := fsN_le p z (a + 1); omega
theorem ch_hit {fe mo : Nat → Int32} {ml i : Nat} (hi : i < ml) (h : ∀ k, k < i → ¬ nxF fe mo (chL fe mo ml k) ml = -1) (h2 : nxF fe mo (chL fe mo ml i) ml = -1) : chN fe mo ml = i :=
  fsN_hit (by simpa using h2) ml 0 (Nat.zero_le _) (by omega) (fun k hk => by simpa using h k hk)
theorem ch_all {fe mo : Nat → Int32} {ml : Nat} (h : ∀ k, k < ml → ¬ nxF fe mo (chL fe mo ml k) ml = -1) : chN fe mo ml = ml :=
  fsN_all ml 0 (by omega) (fun k hk => by simpa using h k hk)
theorem ch_le (fe mo : Nat → Int32) (ml : Nat) : chN fe mo ml ≤ ml := by have := fsN_le (fun k => decide (nxF fe mo (chL fe mo ml k) ml = -1)) ml 0; unfold chN; omega
def tbF (to : Nat → Int32) (dp : Nat) : Int32 := if nI dp ≤ 0 then 0 else to (dp - 1)
def fbF (fe : Nat → Int32) (re : Int32) : Nat → Int32
  | 0 => 0
  | i + 1 => if re < fe i then fbF fe re i else fbF fe re i ||| 1 <<< (nI i &&& 31)
def mkE (d tg : Nat → Int32) (sg : Int32) (fe : Nat → Int32) : Nat → Nat → Int32
  | 0 => fe
  | i + 1 => upd (mkE d tg sg fe i) i (fwF (10 * tg i - d i) sg)
def mkM (d tg : Nat → Int32) (sg : Int32) (mo : Nat → Int32) : Nat → Nat → Int32
  | 0 => mo
  | i + 1 => upd (mkM d tg sg mo i) i (msF (10 * tg i - d i + 10 - 1) sg)
def mkB (d tg : Nat → Int32) (sg : Int32) : Nat → Int32
  | 0 => 0
  | i + 1 => if fwF (10 * tg i - d i) sg ≤ msF (10 * tg i - d i + 10 - 1) sg then mkB d tg sg i else mkB d tg sg i ||| 1 <<< (nI i &&& 31)
def mkC (d tg : Nat → Int32) (sg : Int32) (fe mo : Nat → Int32) (nl : Nat) : Nat := if mkB d tg sg nl = 0 then chN (mkE d tg sg fe nl) (mkM d tg sg mo nl) nl else 0
def mkT (d tg : Nat → Int32) (sg : Int32) (fe mo to : Nat → Int32) (nl : Nat) : Nat → Int32 := if mkB d tg sg nl = 0 then chA (mkE d tg sg fe nl) (mkM d tg sg mo nl) nl to (chN (mkE d tg sg fe nl) (mkM d tg sg mo nl) nl) else to
set_option maxHeartbeats 4000000 in
set_option maxRecDepth 100000 in
/-- fewestMinutes(gap, strength) -/
theorem c_X0_fewestMinutes (l : Launch) (D : va_G) (cI cR : ClassId) (gx : Int32) (sx : Int32)  : Ctr l D cI cR yX0_fewestMinutes cX0_fewestMinutes 2 ((some .int)) ({ frames := 0, cells := 0, slots := 0, locals := 0 }) [.int gx, .int sx] [] (rP (some (.int (fwF gx sx))) []) := by
  refine ctr_of (lv0 := [(0, .int gx), (1, .int sx)]) (by decide) (nle rfl) rfl (fun G C E => ?_)
  refine r_iload_n C dX0_fewestMinutes_0 0 rfl ?_
  refine r_if_le C dX0_fewestMinutes_1 (tgt := 9) (by decide) (fun c_1 => ?_) (fun c_1 => ?_)
  · refine r_iconst C dX0_fewestMinutes_9 (v := 0) (by decide) ?_
    exact r_iret C E dX0_fewestMinutes_10 (nle rfl) (nle rfl) ⟨(by first | rfl | simp only [fwF, if_pos c_1]), (by first | rfl | simp only [fwF, if_pos c_1])⟩
  · refine r_iload_n C dX0_fewestMinutes_4 1 rfl ?_
    refine r_iconst C dX0_fewestMinutes_5 (v := 1) (by decide) ?_
    refine r_icmp_ge C dX0_fewestMinutes_6 (tgt := 11) (by decide) (fun hs1 => ?_) (fun hs1 => ?_)
    · refine r_iload_n C dX0_fewestMinutes_11 0 rfl ?_
      refine r_iload_n C dX0_fewestMinutes_12 1 rfl ?_
      refine r_iadd C dX0_fewestMinutes_13 ?_
      refine r_iconst C dX0_fewestMinutes_14 (v := 1) (by decide) ?_
      refine r_isub C dX0_fewestMinutes_15 ?_
      refine r_iload_n C dX0_fewestMinutes_16 1 rfl ?_
      refine r_idiv C dX0_fewestMinutes_17 (ne0 hs1) ?_
      exact r_iret C E dX0_fewestMinutes_18 (nle rfl) (nle rfl) ⟨(by first | rfl | simp only [fwF, if_neg c_1, if_pos hs1]), (by first | rfl | simp only [fwF, if_neg c_1, if_pos hs1])⟩
    · refine r_iconst C dX0_fewestMinutes_9 (v := 0) (by decide) ?_
      exact r_iret C E dX0_fewestMinutes_10 (nle rfl) (nle rfl) ⟨(by first | rfl | simp only [fwF, if_neg c_1, if_neg hs1]), (by first | rfl | simp only [fwF, if_neg c_1, if_neg hs1])⟩
set_option maxHeartbeats 4000000 in
set_option maxRecDepth 100000 in
/-- mostMinutes(room, strength) -/
theorem c_X0_mostMinutes (l : Launch) (D : va_G) (cI cR : ClassId) (gx : Int32) (sx : Int32)  : Ctr l D cI cR yX0_mostMinutes cX0_mostMinutes 2 ((some .int)) ({ frames := 1, cells := 0, slots := 0, locals := 26 }) [.int gx, .int sx] [] (rP (some (.int (msF gx sx))) []) := by
  refine ctr_of (lv0 := [(0, .int gx), (1, .int sx)]) (by decide) (nle rfl) rfl (fun G C E => ?_)
  refine r_iload_n C dX0_mostMinutes_0 0 rfl ?_
  refine r_if_lt C dX0_mostMinutes_1 (tgt := 9) (by decide) (fun c_1 => ?_) (fun c_1 => ?_)
  · refine r_iconst C dX0_mostMinutes_9 (v := (-1)) (by decide) ?_
    exact r_iret C E dX0_mostMinutes_10 (nle rfl) (nle rfl) ⟨(by first | rfl | simp only [msF, if_pos c_1]), (by first | rfl | simp only [msF, if_pos c_1])⟩
  · refine r_iload_n C dX0_mostMinutes_4 1 rfl ?_
    refine r_iconst C dX0_mostMinutes_5 (v := 1) (by decide) ?_
    refine r_icmp_ge C dX0_mostMinutes_6 (tgt := 11) (by decide) (fun hs1 => ?_) (fun hs1 => ?_)
    · refine r_bipush C dX0_mostMinutes_11 (v := 99) (by decide) ?_
      refine r_iload_n C dX0_mostMinutes_13 0 rfl ?_
      refine r_iload_n C dX0_mostMinutes_14 1 rfl ?_
      refine r_idiv C dX0_mostMinutes_15 (ne0 hs1) ?_
      refine r_mmin C dX0_mostMinutes_16 q_327 (nle rfl) (nle rfl) (nle rfl) (nle rfl) ?_
      exact r_iret C E dX0_mostMinutes_19 (nle rfl) (nle rfl) ⟨(by first | rfl | simp only [msF, if_neg c_1, if_pos hs1]), (by first | rfl | simp only [msF, if_neg c_1, if_pos hs1])⟩
    · refine r_iconst C dX0_mostMinutes_9 (v := (-1)) (by decide) ?_
      exact r_iret C E dX0_mostMinutes_10 (nle rfl) (nle rfl) ⟨(by first | rfl | simp only [msF, if_neg c_1, if_neg hs1]), (by first | rfl | simp only [msF, if_neg c_1, if_neg hs1])⟩
set_option maxHeartbeats 4000000 in
set_option maxRecDepth 100000 in
/-- nextTotal(latest) -/
theorem c_X0_nextTotal (l : Launch) (D : va_G) (cI cR : ClassId) (p0 : Nat) (p1 : Nat) (p2 : Nat) (p3 : Nat) (fe : Nat → Int32) (mo : Nat → Int32) (ml : Nat) (tc : Int32) (bl : Int32) (la : Int32) (hml : ml ≤ 10) : Ctr l D cI cR yX0_nextTotal cX0_nextTotal 4 ((some .int)) ({ frames := 0, cells := 0, slots := 0, locals := 0 }) [.ref p0, .int la] [(p0, .inr (0, [.ref p1, .ref p2, .ref p3, .int (nI ml), .int tc, .int bl])), (p1, .inl (cI, 10, .inl fe)), (p2, .inl (cI, 10, .inl mo))] (rP (some (.int (nxF fe mo la ml))) [(p0, .inr (0, [.ref p1, .ref p2, .ref p3, .int (nI ml), .int tc, .int bl])), (p1, .inl (cI, 10, .inl fe)), (p2, .inl (cI, 10, .inl mo))]) := by
  refine ctr_of (lv0 := [(0, .ref p0), (1, .int la)]) (by decide) (nle rfl) rfl (fun G C E => ?_)
  refine r_iconst C dX0_nextTotal_0 (v := (-1)) (by decide) ?_
  refine r_istore_n C dX0_nextTotal_1 (lv2 := [(2, .int (-1)), (0, .ref p0), (1, .int la)]) (by decide) rfl ?_
  refine r_iconst C dX0_nextTotal_2 (v := 0) (by decide) ?_
  refine r_istore_n C dX0_nextTotal_3 (lv2 := [(3, .int 0), (2, .int (-1)), (0, .ref p0), (1, .int la)]) (by decide) rfl ?_
  have L_4 : ∀ (z i : Nat), i ≤ ml → ml < i + z → ∀ (nx : Int32), nx = nxF fe mo la i → Wr G 0 0 4 [(3, .int (nI i)), (2, .int nx), (0, .ref p0), (1, .int la)] [] [(p0, .inr (0, [.ref p1, .ref p2, .ref p3, .int (nI ml), .int tc, .int bl])), (p1, .inl (cI, 10, .inl fe)), (p2, .inl (cI, 10, .inl mo))] := by
    intro z
    induction z with
    | zero => intro i h1 h2; exact absurd h2 (by omega)
    | succ z ih_4 =>
      intro i hi_4 hz_4 nx e_nx
      refine r_iload_n C dX0_nextTotal_4 0 rfl ?_
      refine r_aload_n C dX0_nextTotal_5 2 rfl ?_
      refine r_get C clX0 dX0_nextTotal_6 0 3 rfl (by decide) q_103 rfl ?_
      refine r_icmp_ge C dX0_nextTotal_9 (tgt := 50) (by decide) (fun c_1 => ?_) (fun c_1 => ?_)
      · have n_2 := (nI_leI (a := ml) (b := i) (by omega) (by omega)).mp c_1
        have ex_4 : ml = i := by omega
        subst ex_4
        subst e_nx
        refine r_iload_n C dX0_nextTotal_50 1 rfl ?_
        exact r_iret C E dX0_nextTotal_51 (nle rfl) (nle rfl) ⟨rfl, rfl⟩
      · have n_2 := mt (nI_leI (a := ml) (b := i) (by omega) (by omega)).mpr c_1
        refine r_aload_n C dX0_nextTotal_12 2 rfl ?_
        refine r_get C clX0 dX0_nextTotal_13 0 0 rfl (by decide) q_100 rfl ?_
        refine r_iload_n C dX0_nextTotal_16 0 rfl ?_
        refine r_iald C dX0_nextTotal_17 1 rfl i rfl (by omega) (by decide) ?_
        refine r_iload_n C dX0_nextTotal_18 3 rfl ?_
        have J_7 : ∀ (v_6 : Int32), v_6 = (if (fe i) ≤ la then nx else (if nx = (-1) then (mo i) else (if nx ≤ (mo i) then nx else (mo i)))) → Wr G 0 0 44 [(3, .int (nI i)), (2, .int v_6), (0, .ref p0), (1, .int la)] [] [(p0, .inr (0, [.ref p1, .ref p2, .ref p3, .int (nI ml), .int tc, .int bl])), (p1, .inl (cI, 10, .inl fe)), (p2, .inl (cI, 10, .inl mo))] := by
          intro v_6 ev_6
          subst ev_6
          refine r_iinc C dX0_nextTotal_44 0 rfl (v := nI (i + 1)) (nI_1 _) (by decide) (lv2 := [(3, .int (nI (i + 1))), (2, .int (if (fe i) ≤ la then nx else (if nx = (-1) then (mo i) else (if nx ≤ (mo i) then nx else (mo i))))), (0, .ref p0), (1, .int la)]) rfl ?_
          refine r_goto C dX0_nextTotal_47 (tgt := 4) (by decide) ?_
          exact ih_4 (i + 1) (by omega) (by omega) _ (by subst e_nx; rfl) 
        refine r_icmp_le C dX0_nextTotal_19 (tgt := 44) (by decide) (fun c_3 => ?_) (fun c_3 => ?_)
        · exact J_7 _ (by first | rfl | simp only [if_pos c_3])
        · refine r_iload_n C dX0_nextTotal_22 1 rfl ?_
          refine r_iconst C dX0_nextTotal_23 (v := (-1)) (by decide) ?_
          refine r_icmp_eq C dX0_nextTotal_24 (tgt := 37) (by decide) (fun c_4 => ?_) (fun c_4 => ?_)
          · refine r_aload_n C dX0_nextTotal_37 2 rfl ?_
            refine r_get C clX0 dX0_nextTotal_38 0 1 rfl (by decide) q_101 rfl ?_
            refine r_iload_n C dX0_nextTotal_41 0 rfl ?_
            refine r_iald C dX0_nextTotal_42 2 rfl i rfl (by omega) (by decide) ?_
            refine r_istore_n C dX0_nextTotal_43 (lv2 := [(2, .int (mo i)), (3, .int (nI i)), (0, .ref p0), (1, .int la)]) (by decide) rfl ?_
            refine r_lv [1, 0, 2, 3] (lv2 := [(3, .int (nI i)), (2, .int (mo i)), (0, .ref p0), (1, .int la)]) rfl ?_
            exact J_7 _ (by first | rfl | simp only [if_neg c_3, if_pos c_4])
          · refine r_aload_n C dX0_nextTotal_27 2 rfl ?_
            refine r_get C clX0 dX0_nextTotal_28 0 1 rfl (by decide) q_101 rfl ?_
            refine r_iload_n C dX0_nextTotal_31 0 rfl ?_
            refine r_iald C dX0_nextTotal_32 2 rfl i rfl (by omega) (by decide) ?_
            refine r_iload_n C dX0_nextTotal_33 1 rfl ?_
            refine r_icmp_ge C dX0_nextTotal_34 (tgt := 44) (by decide) (fun c_5 => ?_) (fun c_5 => ?_)
            · exact J_7 _ (by first | rfl | simp only [if_neg c_3, if_neg c_4, if_pos c_5])
            · refine r_aload_n C dX0_nextTotal_37 2 rfl ?_
              refine r_get C clX0 dX0_nextTotal_38 0 1 rfl (by decide) q_101 rfl ?_
              refine r_iload_n C dX0_nextTotal_41 0 rfl ?_
              refine r_iald C dX0_nextTotal_42 2 rfl i rfl (by omega) (by decide) ?_
              refine r_istore_n C dX0_nextTotal_43 (lv2 := [(2, .int (mo i)), (3, .int (nI i)), (0, .ref p0), (1, .int la)]) (by decide) rfl ?_
              refine r_lv [1, 0, 2, 3] (lv2 := [(3, .int (nI i)), (2, .int (mo i)), (0, .ref p0), (1, .int la)]) rfl ?_
              exact J_7 _ (by first | rfl | simp only [if_neg c_3, if_neg c_4, if_neg c_5])
  exact L_4 (ml + 1) 0 (by omega) (by omega) _ rfl 
set_option maxHeartbeats 4000000 in
set_option maxRecDepth 100000 in
/-- chooseTotals() -/
theorem c_X0_chooseTotals (l : Launch) (D : va_G) (cI cR : ClassId) (p0 : Nat) (p1 : Nat) (p2 : Nat) (p3 : Nat) (fe : Nat → Int32) (mo : Nat → Int32) (to : Nat → Int32) (ml : Nat) (bl : Int32) (hml : ml ≤ 10) : Ctr l D cI cR yX0_chooseTotals cX0_chooseTotals 4 none ({ frames := 1, cells := 0, slots := 0, locals := 23 }) [.ref p0] [(p0, .inr (0, [.ref p1, .ref p2, .ref p3, .int (nI ml), .int (nI 0), .int bl])), (p1, .inl (cI, 10, .inl fe)), (p2, .inl (cI, 10, .inl mo)), (p3, .inl (cI, 10, .inl to))] (rP none [(p0, .inr (0, [.ref p1, .ref p2, .ref p3, .int (nI ml), .int (nI (chN fe mo ml)), .int bl])), (p1, .inl (cI, 10, .inl fe)), (p2, .inl (cI, 10, .inl mo)), (p3, .inl (cI, 10, .inl (chA fe mo ml to (chN fe mo ml))))]) := by
  refine ctr_of (lv0 := [(0, .ref p0)]) (by decide) (nle rfl) rfl (fun G C E => ?_)
  refine r_iconst C dX0_chooseTotals_0 (v := 0) (by decide) ?_
  refine r_istore_n C dX0_chooseTotals_1 (lv2 := [(1, .int 0), (0, .ref p0)]) (by decide) rfl ?_
  refine r_iconst C dX0_chooseTotals_2 (v := 0) (by decide) ?_
  refine r_istore_n C dX0_chooseTotals_3 (lv2 := [(2, .int 0), (1, .int 0), (0, .ref p0)]) (by decide) rfl ?_
  have L_4 : ∀ (z i : Nat), i ≤ ml → ml < i + z → ∀ (la : Int32) (f : Nat → Int32), la = chL fe mo ml i → f = chA fe mo ml to i → (∀ k, k < i → ¬ nxF fe mo (chL fe mo ml k) ml = -1) → Wr G 0 0 4 [(2, .int (nI i)), (1, .int la), (0, .ref p0)] [] [(p0, .inr (0, [.ref p1, .ref p2, .ref p3, .int (nI ml), .int (nI i), .int bl])), (p1, .inl (cI, 10, .inl fe)), (p2, .inl (cI, 10, .inl mo)), (p3, .inl (cI, 10, .inl f))] := by
    intro z
    induction z with
    | zero => intro i h1 h2; exact absurd h2 (by omega)
    | succ z ih_4 =>
      intro i hi_4 hz_4 la f e_la e_f hch
      refine r_iload_n C dX0_chooseTotals_4 0 rfl ?_
      refine r_aload_n C dX0_chooseTotals_5 2 rfl ?_
      refine r_get C clX0 dX0_chooseTotals_6 0 3 rfl (by decide) q_103 rfl ?_
      refine r_icmp_ge C dX0_chooseTotals_9 (tgt := 52) (by decide) (fun c_1 => ?_) (fun c_1 => ?_)
      · have n_2 := (nI_leI (a := ml) (b := i) (by omega) (by omega)).mp c_1
        have ex_4 : ml = i := by omega
        subst ex_4
        subst e_la
        subst e_f
        exact r_vret C E dX0_chooseTotals_52 (nle rfl) (nle rfl) ⟨rfl, by rw [ch_all hch]⟩
      · have n_2 := mt (nI_leI (a := ml) (b := i) (by omega) (by omega)).mpr c_1
        refine r_aload_n C dX0_chooseTotals_12 2 rfl ?_
        refine r_iload_n C dX0_chooseTotals_13 1 rfl ?_
        refine r_callV C (As := [.int la]) (rest := []) (wr := [(p3, .inl (cI, 10, .inl f))]) (c_X0_nextTotal l D cI cR p0 p1 p2 p3 fe mo ml (nI i) bl la (by first | assumption | omega)) k_X0_nextTotal rfl dX0_chooseTotals_14 q_332 q_334 q_8 ⟨nle rfl, nle rfl⟩ [0, 1, 2] [3] rfl rfl rfl rfl (by decide) 0 rfl rfl rfl (nle rfl) ⟨nle rfl, nle rfl⟩ (r_fin (st2 := [.int (nxF fe mo la ml)]) (ws2 := [(p3, .inl (cI, 10, .inl f)), (p0, .inr (0, [.ref p1, .ref p2, .ref p3, .int (nI ml), .int (nI i), .int bl])), (p1, .inl (cI, 10, .inl fe)), (p2, .inl (cI, 10, .inl mo))]) rfl rfl ?_)
        refine r_istore_n C dX0_chooseTotals_17 (lv2 := [(3, .int (nxF fe mo la ml)), (2, .int (nI i)), (1, .int la), (0, .ref p0)]) (by decide) rfl ?_
        refine r_iload_n C dX0_chooseTotals_18 0 rfl ?_
        refine r_iconst C dX0_chooseTotals_19 (v := (-1)) (by decide) ?_
        refine r_icmp_ne C dX0_chooseTotals_20 (tgt := 24) (by decide) (fun hnx => ?_) (fun hnx => ?_)
        · refine r_aload_n C dX0_chooseTotals_24 3 rfl ?_
          refine r_get C clX0 dX0_chooseTotals_25 1 2 rfl (by decide) q_102 rfl ?_
          refine r_aload_n C dX0_chooseTotals_28 3 rfl ?_
          refine r_get C clX0 dX0_chooseTotals_29 1 4 rfl (by decide) q_104 rfl ?_
          refine r_iload_n C dX0_chooseTotals_32 0 rfl ?_
          refine r_iast C dX0_chooseTotals_33 0 rfl i rfl (by omega) (by decide) (ws2 := [(p3, .inl (cI, 10, .inl (upd f i (nxF fe mo la ml)))), (p0, .inr (0, [.ref p1, .ref p2, .ref p3, .int (nI ml), .int (nI i), .int bl])), (p1, .inl (cI, 10, .inl fe)), (p2, .inl (cI, 10, .inl mo))]) rfl ?_
          refine r_aload_n C dX0_chooseTotals_34 3 rfl ?_
          refine r_dup C dX0_chooseTotals_35 rfl ?_
          refine r_get C clX0 dX0_chooseTotals_36 1 4 rfl (by decide) q_104 rfl ?_
          refine r_iconst C dX0_chooseTotals_39 (v := 1) (by decide) ?_
          refine r_iadd C dX0_chooseTotals_40 ?_
          refine r_top (b := nI (i + 1)) (nA rfl rfl) ?_
          refine r_put C clX0 dX0_chooseTotals_41 1 4 rfl (by decide) q_104 rfl rfl rfl (nle rfl) (ws2 := [(p3, .inl (cI, 10, .inl (upd f i (nxF fe mo la ml)))), (p0, .inr (0, [.ref p1, .ref p2, .ref p3, .int (nI ml), .int (nI (i + 1)), .int bl])), (p1, .inl (cI, 10, .inl fe)), (p2, .inl (cI, 10, .inl mo))]) rfl ?_
          refine r_iload_n C dX0_chooseTotals_44 0 rfl ?_
          refine r_istore_n C dX0_chooseTotals_45 (lv2 := [(1, .int (nxF fe mo la ml)), (3, .int (nxF fe mo la ml)), (2, .int (nI i)), (0, .ref p0)]) (by decide) rfl ?_
          refine r_iinc C dX0_chooseTotals_46 2 rfl (v := nI (i + 1)) (nI_1 _) (by decide) (lv2 := [(2, .int (nI (i + 1))), (1, .int (nxF fe mo la ml)), (3, .int (nxF fe mo la ml)), (0, .ref p0)]) rfl ?_
          refine r_goto C dX0_chooseTotals_49 (tgt := 4) (by decide) ?_
          refine r_lv [0, 1, 3] (lv2 := [(2, .int (nI (i + 1))), (1, .int (nxF fe mo la ml)), (0, .ref p0)]) rfl ?_
          refine r_ws [1, 2, 3, 0] (ws2 := [(p0, .inr (0, [.ref p1, .ref p2, .ref p3, .int (nI ml), .int (nI (i + 1)), .int bl])), (p1, .inl (cI, 10, .inl fe)), (p2, .inl (cI, 10, .inl mo)), (p3, .inl (cI, 10, .inl (upd f i (nxF fe mo la ml))))]) rfl rfl ?_
          exact ih_4 (i + 1) (by omega) (by omega) _ _ (by subst e_la; subst e_f; rfl) (by subst e_la; subst e_f; rfl) (lt_s hch (by subst e_la; exact hnx))
        · refine r_ws [1, 2, 3, 0] (ws2 := [(p0, .inr (0, [.ref p1, .ref p2, .ref p3, .int (nI ml), .int (nI i), .int bl])), (p1, .inl (cI, 10, .inl fe)), (p2, .inl (cI, 10, .inl mo)), (p3, .inl (cI, 10, .inl f))]) rfl rfl ?_
          exact r_vret C E dX0_chooseTotals_23 (nle rfl) (nle rfl) ⟨rfl, by subst e_la; subst e_f; rw [ch_hit (show i < ml by omega) hch hnx]⟩
  exact L_4 (ml + 1) 0 (by omega) (by omega) _ _ rfl rfl (fun k h => absurd h (Nat.not_lt_zero k))
set_option maxHeartbeats 4000000 in
set_option maxRecDepth 100000 in
/-- totalBefore(dip) -/
theorem c_X0_totalBefore (l : Launch) (D : va_G) (cI cR : ClassId) (p0 : Nat) (p1 : Nat) (p2 : Nat) (p3 : Nat) (to : Nat → Int32) (ml : Nat) (tc : Int32) (bl : Int32) (dp : Nat) (hdp : dp ≤ 10) : Ctr l D cI cR yX0_totalBefore cX0_totalBefore 2 ((some .int)) ({ frames := 0, cells := 0, slots := 0, locals := 0 }) [.ref p0, .int (nI dp)] [(p0, .inr (0, [.ref p1, .ref p2, .ref p3, .int (nI ml), .int tc, .int bl])), (p3, .inl (cI, 10, .inl to))] (rP (some (.int (tbF to dp))) [(p0, .inr (0, [.ref p1, .ref p2, .ref p3, .int (nI ml), .int tc, .int bl])), (p3, .inl (cI, 10, .inl to))]) := by
  refine ctr_of (lv0 := [(0, .ref p0), (1, .int (nI dp))]) (by decide) (nle rfl) rfl (fun G C E => ?_)
  refine r_iload_n C dX0_totalBefore_0 1 rfl ?_
  have J_4 : ∀ (v_3 : Int32), v_3 = (if (nI dp) ≤ 0 then (0 : Int32) else (to (dp - 1))) → Wr G 0 0 16 [(0, .ref p0), (1, .int (nI dp))] [.int v_3] [(p0, .inr (0, [.ref p1, .ref p2, .ref p3, .int (nI ml), .int tc, .int bl])), (p3, .inl (cI, 10, .inl to))] := by
    intro v_3 ev_3
    subst ev_3
    exact r_iret C E dX0_totalBefore_16 (nle rfl) (nle rfl) ⟨rfl, rfl⟩
  refine r_if_le C dX0_totalBefore_1 (tgt := 15) (by decide) (fun c_1 => ?_) (fun c_1 => ?_)
  · have n_2 := (nI_leI (a := dp) (b := 0) (by omega) (by omega)).mp c_1
    refine r_iconst C dX0_totalBefore_15 (v := 0) (by decide) ?_
    exact J_4 _ (by first | rfl | simp only [if_pos c_1])
  · have n_2 := mt (nI_leI (a := dp) (b := 0) (by omega) (by omega)).mpr c_1
    refine r_aload_n C dX0_totalBefore_4 0 rfl ?_
    refine r_get C clX0 dX0_totalBefore_5 0 2 rfl (by decide) q_102 rfl ?_
    refine r_iload_n C dX0_totalBefore_8 1 rfl ?_
    refine r_iconst C dX0_totalBefore_9 (v := 1) (by decide) ?_
    refine r_isub C dX0_totalBefore_10 ?_
    refine r_top (b := nI (dp - 1)) (pk_sub (b := 1) (by omega)) ?_
    refine r_iald C dX0_totalBefore_11 1 rfl (dp - 1) rfl (by omega) (by decide) ?_
    refine r_goto C dX0_totalBefore_12 (tgt := 16) (by decide) ?_
    exact J_4 _ (by first | rfl | simp only [if_neg c_1])
set_option maxHeartbeats 4000000 in
set_option maxRecDepth 100000 in
/-- minutesAt(dip) -/
theorem c_X0_minutesAt (l : Launch) (D : va_G) (cI cR : ClassId) (p0 : Nat) (p1 : Nat) (p2 : Nat) (p3 : Nat) (to : Nat → Int32) (ml : Nat) (tc : Int32) (bl : Int32) (dp : Nat) (hdp : dp < 10) : Ctr l D cI cR yX0_minutesAt cX0_minutesAt 2 ((some .int)) ({ frames := 1, cells := 0, slots := 0, locals := 21 }) [.ref p0, .int (nI dp)] [(p0, .inr (0, [.ref p1, .ref p2, .ref p3, .int (nI ml), .int tc, .int bl])), (p3, .inl (cI, 10, .inl to))] (rP (some (.int (to dp - tbF to dp))) [(p0, .inr (0, [.ref p1, .ref p2, .ref p3, .int (nI ml), .int tc, .int bl])), (p3, .inl (cI, 10, .inl to))]) := by
  refine ctr_of (lv0 := [(0, .ref p0), (1, .int (nI dp))]) (by decide) (nle rfl) rfl (fun G C E => ?_)
  refine r_aload_n C dX0_minutesAt_0 0 rfl ?_
  refine r_get C clX0 dX0_minutesAt_1 0 2 rfl (by decide) q_102 rfl ?_
  refine r_iload_n C dX0_minutesAt_4 1 rfl ?_
  refine r_iald C dX0_minutesAt_5 1 rfl dp rfl (by omega) (by decide) ?_
  refine r_aload_n C dX0_minutesAt_6 0 rfl ?_
  refine r_iload_n C dX0_minutesAt_7 1 rfl ?_
  refine r_callV C (As := [.int (nI dp)]) (rest := [.int (to dp)]) (wr := []) (c_X0_totalBefore l D cI cR p0 p1 p2 p3 to ml tc bl dp (by first | assumption | omega)) k_X0_totalBefore rfl dX0_minutesAt_8 q_348 q_350 q_10 ⟨nle rfl, nle rfl⟩ [0, 1] [] rfl rfl rfl rfl (by decide) 0 rfl rfl rfl (nle rfl) ⟨nle rfl, nle rfl⟩ (r_fin (st2 := [.int (tbF to dp), .int (to dp)]) (ws2 := [(p0, .inr (0, [.ref p1, .ref p2, .ref p3, .int (nI ml), .int tc, .int bl])), (p3, .inl (cI, 10, .inl to))]) rfl rfl ?_)
  refine r_isub C dX0_minutesAt_11 ?_
  exact r_iret C E dX0_minutesAt_12 (nle rfl) (nle rfl) ⟨rfl, rfl⟩
set_option maxHeartbeats 4000000 in
set_option maxRecDepth 100000 in
/-- finishedBefore(dip) -/
theorem c_X0_finishedBefore (l : Launch) (D : va_G) (cI cR : ClassId) (p0 : Nat) (p1 : Nat) (p2 : Nat) (p3 : Nat) (fe : Nat → Int32) (to : Nat → Int32) (ml : Nat) (tc : Int32) (bl : Int32) (dp : Nat) (hml : ml ≤ 10) (hdp : dp ≤ 10) : Ctr l D cI cR yX0_finishedBefore cX0_finishedBefore 5 ((some .int)) ({ frames := 1, cells := 0, slots := 0, locals := 21 }) [.ref p0, .int (nI dp)] [(p0, .inr (0, [.ref p1, .ref p2, .ref p3, .int (nI ml), .int tc, .int bl])), (p1, .inl (cI, 10, .inl fe)), (p3, .inl (cI, 10, .inl to))] (rP (some (.int (fbF fe (tbF to dp) ml))) [(p0, .inr (0, [.ref p1, .ref p2, .ref p3, .int (nI ml), .int tc, .int bl])), (p1, .inl (cI, 10, .inl fe)), (p3, .inl (cI, 10, .inl to))]) := by
  refine ctr_of (lv0 := [(0, .ref p0), (1, .int (nI dp))]) (by decide) (nle rfl) rfl (fun G C E => ?_)
  refine r_aload_n C dX0_finishedBefore_0 0 rfl ?_
  refine r_iload_n C dX0_finishedBefore_1 1 rfl ?_
  refine r_callV C (As := [.int (nI dp)]) (rest := []) (wr := [(p1, .inl (cI, 10, .inl fe))]) (c_X0_totalBefore l D cI cR p0 p1 p2 p3 to ml tc bl dp (by first | assumption | omega)) k_X0_totalBefore rfl dX0_finishedBefore_2 q_348 q_350 q_10 ⟨nle rfl, nle rfl⟩ [0, 2] [1] rfl rfl rfl rfl (by decide) 0 rfl rfl rfl (nle rfl) ⟨nle rfl, nle rfl⟩ (r_fin (st2 := [.int (tbF to dp)]) (ws2 := [(p1, .inl (cI, 10, .inl fe)), (p0, .inr (0, [.ref p1, .ref p2, .ref p3, .int (nI ml), .int tc, .int bl])), (p3, .inl (cI, 10, .inl to))]) rfl rfl ?_)
  refine r_istore_n C dX0_finishedBefore_5 (lv2 := [(2, .int (tbF to dp)), (0, .ref p0), (1, .int (nI dp))]) (by decide) rfl ?_
  refine r_iconst C dX0_finishedBefore_6 (v := 0) (by decide) ?_
  refine r_istore_n C dX0_finishedBefore_7 (lv2 := [(3, .int 0), (2, .int (tbF to dp)), (0, .ref p0), (1, .int (nI dp))]) (by decide) rfl ?_
  refine r_iconst C dX0_finishedBefore_8 (v := 0) (by decide) ?_
  refine r_istore C dX0_finishedBefore_9 (lv2 := [(4, .int 0), (3, .int 0), (2, .int (tbF to dp)), (0, .ref p0), (1, .int (nI dp))]) (by decide) rfl ?_
  have L_11 : ∀ (z i : Nat), i ≤ ml → ml < i + z → ∀ (se : Int32), se = fbF fe (tbF to dp) i → Wr G 0 0 11 [(4, .int (nI i)), (3, .int se), (2, .int (tbF to dp)), (0, .ref p0), (1, .int (nI dp))] [] [(p1, .inl (cI, 10, .inl fe)), (p0, .inr (0, [.ref p1, .ref p2, .ref p3, .int (nI ml), .int tc, .int bl])), (p3, .inl (cI, 10, .inl to))] := by
    intro z
    induction z with
    | zero => intro i h1 h2; exact absurd h2 (by omega)
    | succ z ih_11 =>
      intro i hi_11 hz_11 se e_se
      refine r_iload C dX0_finishedBefore_11 0 rfl ?_
      refine r_aload_n C dX0_finishedBefore_13 3 rfl ?_
      refine r_get C clX0 dX0_finishedBefore_14 1 3 rfl (by decide) q_103 rfl ?_
      refine r_icmp_ge C dX0_finishedBefore_17 (tgt := 44) (by decide) (fun c_1 => ?_) (fun c_1 => ?_)
      · have n_2 := (nI_leI (a := ml) (b := i) (by omega) (by omega)).mp c_1
        have ex_11 : ml = i := by omega
        subst ex_11
        subst e_se
        refine r_iload_n C dX0_finishedBefore_44 1 rfl ?_
        refine r_ws [1, 0, 2] (ws2 := [(p0, .inr (0, [.ref p1, .ref p2, .ref p3, .int (nI ml), .int tc, .int bl])), (p1, .inl (cI, 10, .inl fe)), (p3, .inl (cI, 10, .inl to))]) rfl rfl ?_
        exact r_iret C E dX0_finishedBefore_45 (nle rfl) (nle rfl) ⟨rfl, rfl⟩
      · have n_2 := mt (nI_leI (a := ml) (b := i) (by omega) (by omega)).mpr c_1
        refine r_aload_n C dX0_finishedBefore_20 3 rfl ?_
        refine r_get C clX0 dX0_finishedBefore_21 1 0 rfl (by decide) q_100 rfl ?_
        refine r_iload C dX0_finishedBefore_24 0 rfl ?_
        refine r_iald C dX0_finishedBefore_26 0 rfl i rfl (by omega) (by decide) ?_
        refine r_iload_n C dX0_finishedBefore_27 2 rfl ?_
        have J_5 : ∀ (v_4 : Int32), v_4 = (if (tbF to dp) < (fe i) then se else (se ||| (1 <<< (nI i &&& 31)))) → Wr G 0 0 38 [(4, .int (nI i)), (3, .int v_4), (2, .int (tbF to dp)), (0, .ref p0), (1, .int (nI dp))] [] [(p1, .inl (cI, 10, .inl fe)), (p0, .inr (0, [.ref p1, .ref p2, .ref p3, .int (nI ml), .int tc, .int bl])), (p3, .inl (cI, 10, .inl to))] := by
          intro v_4 ev_4
          subst ev_4
          refine r_iinc C dX0_finishedBefore_38 0 rfl (v := nI (i + 1)) (nI_1 _) (by decide) (lv2 := [(4, .int (nI (i + 1))), (3, .int (if (tbF to dp) < (fe i) then se else (se ||| (1 <<< (nI i &&& 31))))), (2, .int (tbF to dp)), (0, .ref p0), (1, .int (nI dp))]) rfl ?_
          refine r_goto C dX0_finishedBefore_41 (tgt := 11) (by decide) ?_
          exact ih_11 (i + 1) (by omega) (by omega) _ (by subst e_se; rfl) 
        refine r_icmp_gt C dX0_finishedBefore_28 (tgt := 38) (by decide) (fun c_3 => ?_) (fun c_3 => ?_)
        · exact J_5 _ (by first | rfl | simp only [if_pos c_3])
        · refine r_iload_n C dX0_finishedBefore_31 1 rfl ?_
          refine r_iconst C dX0_finishedBefore_32 (v := 1) (by decide) ?_
          refine r_iload C dX0_finishedBefore_33 0 rfl ?_
          refine r_ishl C dX0_finishedBefore_35 ?_
          refine r_ior C dX0_finishedBefore_36 ?_
          refine r_istore_n C dX0_finishedBefore_37 (lv2 := [(3, .int (se ||| (1 <<< (nI i &&& 31)))), (4, .int (nI i)), (2, .int (tbF to dp)), (0, .ref p0), (1, .int (nI dp))]) (by decide) rfl ?_
          refine r_lv [1, 0, 2, 3, 4] (lv2 := [(4, .int (nI i)), (3, .int (se ||| (1 <<< (nI i &&& 31)))), (2, .int (tbF to dp)), (0, .ref p0), (1, .int (nI dp))]) rfl ?_
          exact J_5 _ (by first | rfl | simp only [if_neg c_3])
  exact L_11 (ml + 1) 0 (by omega) (by omega) _ rfl 
set_option maxHeartbeats 4000000 in
set_option maxRecDepth 100000 in
/-- make(plate, targets) -/
theorem c_X0_make (l : Launch) (D : va_G) (cI cR : ClassId) (p0 : Nat) (p1 : Nat) (p2 : Nat) (p3 : Nat) (fe : Nat → Int32) (mo : Nat → Int32) (to : Nat → Int32) (ml : Nat) (tc : Int32) (bl : Int32) (h0 : Nat) (a1 : Nat) (a2 : Nat) (a3 : Nat) (d : Nat → Int32) (nl : Nat) (va : Int32) (sg : Int32) (pr : Nat) (sn : Int32) (wk : Int32) (ag : Nat) (tg : Nat → Int32) (hnl : nl ≤ 10) : Ctr l D cI cR yX0_make cX0_make 5 none ({ frames := 2, cells := 0, slots := 0, locals := 47 }) [.ref p0, .ref h0, .ref ag] [(p0, .inr (0, [.ref p1, .ref p2, .ref p3, .int (nI ml), .int tc, .int bl])), (p1, .inl (cI, 10, .inl fe)), (p2, .inl (cI, 10, .inl mo)), (p3, .inl (cI, 10, .inl to)), (h0, .inr (1, [.ref a1, .ref a2, .ref a3, .int (nI nl), .int va, .int sg, .int (nI pr), .int sn, .int wk])), (a1, .inl (cI, 10, .inl d)), (ag, .inl (cI, 10, .inl tg))] (rP none [(p0, .inr (0, [.ref p1, .ref p2, .ref p3, .int (nI nl), .int (nI (mkC d tg sg fe mo nl)), .int (mkB d tg sg nl)])), (p1, .inl (cI, 10, .inl (mkE d tg sg fe nl))), (p2, .inl (cI, 10, .inl (mkM d tg sg mo nl))), (p3, .inl (cI, 10, .inl (mkT d tg sg fe mo to nl))), (h0, .inr (1, [.ref a1, .ref a2, .ref a3, .int (nI nl), .int va, .int sg, .int (nI pr), .int sn, .int wk])), (a1, .inl (cI, 10, .inl d)), (ag, .inl (cI, 10, .inl tg))]) := by
  refine ctr_of (lv0 := [(0, .ref p0), (1, .ref h0), (2, .ref ag)]) (by decide) (nle rfl) rfl (fun G C E => ?_)
  refine r_aload_n C dX0_make_0 0 rfl ?_
  refine r_aload_n C dX0_make_1 1 rfl ?_
  refine r_get C clX1 dX0_make_2 4 3 rfl (by decide) q_62 rfl ?_
  refine r_put C clX0 dX0_make_5 0 3 rfl (by decide) q_103 rfl rfl rfl (nle rfl) (ws2 := [(p0, .inr (0, [.ref p1, .ref p2, .ref p3, .int (nI nl), .int tc, .int bl])), (p1, .inl (cI, 10, .inl fe)), (p2, .inl (cI, 10, .inl mo)), (p3, .inl (cI, 10, .inl to)), (h0, .inr (1, [.ref a1, .ref a2, .ref a3, .int (nI nl), .int va, .int sg, .int (nI pr), .int sn, .int wk])), (a1, .inl (cI, 10, .inl d)), (ag, .inl (cI, 10, .inl tg))]) rfl ?_
  refine r_aload_n C dX0_make_8 0 rfl ?_
  refine r_iconst C dX0_make_9 (v := 0) (by decide) ?_
  refine r_put C clX0 dX0_make_10 0 5 rfl (by decide) q_106 rfl rfl rfl (nle rfl) (ws2 := [(p0, .inr (0, [.ref p1, .ref p2, .ref p3, .int (nI nl), .int tc, .int 0])), (p1, .inl (cI, 10, .inl fe)), (p2, .inl (cI, 10, .inl mo)), (p3, .inl (cI, 10, .inl to)), (h0, .inr (1, [.ref a1, .ref a2, .ref a3, .int (nI nl), .int va, .int sg, .int (nI pr), .int sn, .int wk])), (a1, .inl (cI, 10, .inl d)), (ag, .inl (cI, 10, .inl tg))]) rfl ?_
  refine r_iconst C dX0_make_13 (v := 0) (by decide) ?_
  refine r_istore_n C dX0_make_14 (lv2 := [(3, .int 0), (0, .ref p0), (1, .ref h0), (2, .ref ag)]) (by decide) rfl ?_
  have L_15 : ∀ (z i : Nat), i ≤ nl → nl < i + z → ∀ (f : Nat → Int32) (g : Nat → Int32) (bb : Int32), f = mkE d tg sg fe i → g = mkM d tg sg mo i → bb = mkB d tg sg i → Wr G 0 0 15 [(3, .int (nI i)), (0, .ref p0), (1, .ref h0), (2, .ref ag)] [] [(p0, .inr (0, [.ref p1, .ref p2, .ref p3, .int (nI nl), .int tc, .int bb])), (p1, .inl (cI, 10, .inl f)), (p2, .inl (cI, 10, .inl g)), (p3, .inl (cI, 10, .inl to)), (h0, .inr (1, [.ref a1, .ref a2, .ref a3, .int (nI nl), .int va, .int sg, .int (nI pr), .int sn, .int wk])), (a1, .inl (cI, 10, .inl d)), (ag, .inl (cI, 10, .inl tg))] := by
    intro z
    induction z with
    | zero => intro i h1 h2; exact absurd h2 (by omega)
    | succ z ih_15 =>
      intro i hi_15 hz_15 f g bb e_f e_g e_bb
      refine r_iload_n C dX0_make_15 0 rfl ?_
      refine r_aload_n C dX0_make_16 1 rfl ?_
      refine r_get C clX0 dX0_make_17 0 3 rfl (by decide) q_103 rfl ?_
      refine r_icmp_ge C dX0_make_20 (tgt := 106) (by decide) (fun c_1 => ?_) (fun c_1 => ?_)
      · have n_2 := (nI_leI (a := nl) (b := i) (by omega) (by omega)).mp c_1
        have ex_15 : nl = i := by omega
        subst ex_15
        subst e_f
        subst e_g
        subst e_bb
        refine r_aload_n C dX0_make_106 1 rfl ?_
        refine r_iconst C dX0_make_107 (v := 0) (by decide) ?_
        refine r_put C clX0 dX0_make_108 0 4 rfl (by decide) q_104 rfl rfl rfl (nle rfl) (ws2 := [(p0, .inr (0, [.ref p1, .ref p2, .ref p3, .int (nI nl), .int 0, .int (mkB d tg sg nl)])), (p1, .inl (cI, 10, .inl (mkE d tg sg fe nl))), (p2, .inl (cI, 10, .inl (mkM d tg sg mo nl))), (p3, .inl (cI, 10, .inl to)), (h0, .inr (1, [.ref a1, .ref a2, .ref a3, .int (nI nl), .int va, .int sg, .int (nI pr), .int sn, .int wk])), (a1, .inl (cI, 10, .inl d)), (ag, .inl (cI, 10, .inl tg))]) rfl ?_
        refine r_aload_n C dX0_make_111 1 rfl ?_
        refine r_get C clX0 dX0_make_112 0 5 rfl (by decide) q_106 rfl ?_
        have J_6 : ∀ (v_4 : Int32) (f_5 : Nat → Int32), v_4 = (if (mkB d tg sg nl) = 0 then (nI (chN (mkE d tg sg fe nl) (mkM d tg sg mo nl) nl)) else 0) → f_5 = (if (mkB d tg sg nl) = 0 then (chA (mkE d tg sg fe nl) (mkM d tg sg mo nl) nl to (chN (mkE d tg sg fe nl) (mkM d tg sg mo nl) nl)) else to) → Wr G 0 0 122 [(3, .int (nI nl)), (0, .ref p0), (1, .ref h0), (2, .ref ag)] [] [(p0, .inr (0, [.ref p1, .ref p2, .ref p3, .int (nI nl), .int v_4, .int (mkB d tg sg nl)])), (p1, .inl (cI, 10, .inl (mkE d tg sg fe nl))), (p2, .inl (cI, 10, .inl (mkM d tg sg mo nl))), (p3, .inl (cI, 10, .inl f_5)), (h0, .inr (1, [.ref a1, .ref a2, .ref a3, .int (nI nl), .int va, .int sg, .int (nI pr), .int sn, .int wk])), (a1, .inl (cI, 10, .inl d)), (ag, .inl (cI, 10, .inl tg))] := by
          intro v_4 f_5 ev_4 ef_5
          subst ev_4
          subst ef_5
          exact r_vret C E dX0_make_122 (nle rfl) (nle rfl) ⟨rfl, by first | rfl | (unfold mkC mkT; split <;> rfl)⟩
        refine r_if_ne C dX0_make_115 (tgt := 122) (by decide) (fun c_3 => ?_) (fun c_3 => ?_)
        · exact J_6 _ _ (by first | rfl | simp only [if_neg c_3]) (by first | rfl | simp only [if_neg c_3])
        · refine r_aload_n C dX0_make_118 1 rfl ?_
          refine r_callV C (As := []) (rest := []) (wr := [(h0, .inr (1, [.ref a1, .ref a2, .ref a3, .int (nI nl), .int va, .int sg, .int (nI pr), .int sn, .int wk])), (a1, .inl (cI, 10, .inl d)), (ag, .inl (cI, 10, .inl tg))]) (c_X0_chooseTotals l D cI cR p0 p1 p2 p3 (mkE d tg sg fe nl) (mkM d tg sg mo nl) to nl (mkB d tg sg nl) (by first | assumption | omega)) k_X0_chooseTotals rfl dX0_make_119 q_328 q_330 q_7 ⟨nle rfl, nle rfl⟩ [0, 1, 2, 3] [4, 5, 6] rfl rfl rfl rfl (by decide) 0 rfl rfl rfl (nle rfl) ⟨nle rfl, nle rfl⟩ (r_fin (st2 := []) (ws2 := [(h0, .inr (1, [.ref a1, .ref a2, .ref a3, .int (nI nl), .int va, .int sg, .int (nI pr), .int sn, .int wk])), (a1, .inl (cI, 10, .inl d)), (ag, .inl (cI, 10, .inl tg)), (p0, .inr (0, [.ref p1, .ref p2, .ref p3, .int (nI nl), .int (nI (chN (mkE d tg sg fe nl) (mkM d tg sg mo nl) nl)), .int (mkB d tg sg nl)])), (p1, .inl (cI, 10, .inl (mkE d tg sg fe nl))), (p2, .inl (cI, 10, .inl (mkM d tg sg mo nl))), (p3, .inl (cI, 10, .inl (chA (mkE d tg sg fe nl) (mkM d tg sg mo nl) nl to (chN (mkE d tg sg fe nl) (mkM d tg sg mo nl) nl))))]) rfl rfl ?_)
          refine r_ws [3, 4, 5, 6, 0, 1, 2] (ws2 := [(p0, .inr (0, [.ref p1, .ref p2, .ref p3, .int (nI nl), .int (nI (chN (mkE d tg sg fe nl) (mkM d tg sg mo nl) nl)), .int (mkB d tg sg nl)])), (p1, .inl (cI, 10, .inl (mkE d tg sg fe nl))), (p2, .inl (cI, 10, .inl (mkM d tg sg mo nl))), (p3, .inl (cI, 10, .inl (chA (mkE d tg sg fe nl) (mkM d tg sg mo nl) nl to (chN (mkE d tg sg fe nl) (mkM d tg sg mo nl) nl)))), (h0, .inr (1, [.ref a1, .ref a2, .ref a3, .int (nI nl), .int va, .int sg, .int (nI pr), .int sn, .int wk])), (a1, .inl (cI, 10, .inl d)), (ag, .inl (cI, 10, .inl tg))]) rfl rfl ?_
          exact J_6 _ _ (by first | rfl | simp only [if_pos c_3]) (by first | rfl | simp only [if_pos c_3])
      · have n_2 := mt (nI_leI (a := nl) (b := i) (by omega) (by omega)).mpr c_1
        refine r_bipush C dX0_make_23 (v := 10) (by decide) ?_
        refine r_aload_n C dX0_make_25 3 rfl ?_
        refine r_iload_n C dX0_make_26 0 rfl ?_
        refine r_iald C dX0_make_27 6 rfl i rfl (by omega) (by decide) ?_
        refine r_imul C dX0_make_28 ?_
        refine r_aload_n C dX0_make_29 2 rfl ?_
        refine r_get C clX1 dX0_make_30 4 0 rfl (by decide) q_56 rfl ?_
        refine r_iload_n C dX0_make_33 0 rfl ?_
        refine r_iald C dX0_make_34 5 rfl i rfl (by omega) (by decide) ?_
        refine r_isub C dX0_make_35 ?_
        refine r_istore C dX0_make_36 (lv2 := [(4, .int ((10 * (tg i)) - (d i))), (3, .int (nI i)), (0, .ref p0), (1, .ref h0), (2, .ref ag)]) (by decide) rfl ?_
        refine r_aload_n C dX0_make_38 2 rfl ?_
        refine r_get C clX0 dX0_make_39 0 0 rfl (by decide) q_100 rfl ?_
        refine r_iload_n C dX0_make_42 1 rfl ?_
        refine r_iload C dX0_make_43 0 rfl ?_
        refine r_aload_n C dX0_make_45 3 rfl ?_
        refine r_get C clX1 dX0_make_46 4 5 rfl (by decide) q_67 rfl ?_
        refine r_callS C (As := [.int ((10 * (tg i)) - (d i)), .int sg]) (rest := [.int (nI i), .ref p1]) (wr := [(p0, .inr (0, [.ref p1, .ref p2, .ref p3, .int (nI nl), .int tc, .int bb])), (p1, .inl (cI, 10, .inl f)), (p2, .inl (cI, 10, .inl g)), (p3, .inl (cI, 10, .inl to)), (h0, .inr (1, [.ref a1, .ref a2, .ref a3, .int (nI nl), .int va, .int sg, .int (nI pr), .int sn, .int wk])), (a1, .inl (cI, 10, .inl d)), (ag, .inl (cI, 10, .inl tg))]) (c_X0_fewestMinutes l D cI cR ((10 * (tg i)) - (d i)) sg ) k_X0_fewestMinutes rfl dX0_make_49 q_321 q_322 ⟨nle rfl, nle rfl⟩ [] [0, 1, 2, 3, 4, 5, 6] rfl rfl rfl rfl (by decide) rfl (nle rfl) ⟨nle rfl, nle rfl⟩ (r_fin (st2 := [.int (fwF ((10 * (tg i)) - (d i)) sg), .int (nI i), .ref p1]) (ws2 := [(p0, .inr (0, [.ref p1, .ref p2, .ref p3, .int (nI nl), .int tc, .int bb])), (p1, .inl (cI, 10, .inl f)), (p2, .inl (cI, 10, .inl g)), (p3, .inl (cI, 10, .inl to)), (h0, .inr (1, [.ref a1, .ref a2, .ref a3, .int (nI nl), .int va, .int sg, .int (nI pr), .int sn, .int wk])), (a1, .inl (cI, 10, .inl d)), (ag, .inl (cI, 10, .inl tg))]) rfl rfl ?_)
        refine r_iast C dX0_make_52 1 rfl i rfl (by omega) (by decide) (ws2 := [(p0, .inr (0, [.ref p1, .ref p2, .ref p3, .int (nI nl), .int tc, .int bb])), (p1, .inl (cI, 10, .inl (upd f i (fwF ((10 * (tg i)) - (d i)) sg)))), (p2, .inl (cI, 10, .inl g)), (p3, .inl (cI, 10, .inl to)), (h0, .inr (1, [.ref a1, .ref a2, .ref a3, .int (nI nl), .int va, .int sg, .int (nI pr), .int sn, .int wk])), (a1, .inl (cI, 10, .inl d)), (ag, .inl (cI, 10, .inl tg))]) rfl ?_
        refine r_aload_n C dX0_make_53 2 rfl ?_
        refine r_get C clX0 dX0_make_54 0 1 rfl (by decide) q_101 rfl ?_
        refine r_iload_n C dX0_make_57 1 rfl ?_
        refine r_iload C dX0_make_58 0 rfl ?_
        refine r_bipush C dX0_make_60 (v := 10) (by decide) ?_
        refine r_iadd C dX0_make_62 ?_
        refine r_iconst C dX0_make_63 (v := 1) (by decide) ?_
        refine r_isub C dX0_make_64 ?_
        refine r_aload_n C dX0_make_65 3 rfl ?_
        refine r_get C clX1 dX0_make_66 4 5 rfl (by decide) q_67 rfl ?_
        refine r_callS C (As := [.int ((((10 * (tg i)) - (d i)) + 10) - 1), .int sg]) (rest := [.int (nI i), .ref p2]) (wr := [(p0, .inr (0, [.ref p1, .ref p2, .ref p3, .int (nI nl), .int tc, .int bb])), (p1, .inl (cI, 10, .inl (upd f i (fwF ((10 * (tg i)) - (d i)) sg)))), (p2, .inl (cI, 10, .inl g)), (p3, .inl (cI, 10, .inl to)), (h0, .inr (1, [.ref a1, .ref a2, .ref a3, .int (nI nl), .int va, .int sg, .int (nI pr), .int sn, .int wk])), (a1, .inl (cI, 10, .inl d)), (ag, .inl (cI, 10, .inl tg))]) (c_X0_mostMinutes l D cI cR ((((10 * (tg i)) - (d i)) + 10) - 1) sg ) k_X0_mostMinutes rfl dX0_make_69 q_324 q_325 ⟨nle rfl, nle rfl⟩ [] [0, 1, 2, 3, 4, 5, 6] rfl rfl rfl rfl (by decide) rfl (nle rfl) ⟨nle rfl, nle rfl⟩ (r_fin (st2 := [.int (msF ((((10 * (tg i)) - (d i)) + 10) - 1) sg), .int (nI i), .ref p2]) (ws2 := [(p0, .inr (0, [.ref p1, .ref p2, .ref p3, .int (nI nl), .int tc, .int bb])), (p1, .inl (cI, 10, .inl (upd f i (fwF ((10 * (tg i)) - (d i)) sg)))), (p2, .inl (cI, 10, .inl g)), (p3, .inl (cI, 10, .inl to)), (h0, .inr (1, [.ref a1, .ref a2, .ref a3, .int (nI nl), .int va, .int sg, .int (nI pr), .int sn, .int wk])), (a1, .inl (cI, 10, .inl d)), (ag, .inl (cI, 10, .inl tg))]) rfl rfl ?_)
        refine r_iast C dX0_make_72 2 rfl i rfl (by omega) (by decide) (ws2 := [(p0, .inr (0, [.ref p1, .ref p2, .ref p3, .int (nI nl), .int tc, .int bb])), (p1, .inl (cI, 10, .inl (upd f i (fwF ((10 * (tg i)) - (d i)) sg)))), (p2, .inl (cI, 10, .inl (upd g i (msF ((((10 * (tg i)) - (d i)) + 10) - 1) sg)))), (p3, .inl (cI, 10, .inl to)), (h0, .inr (1, [.ref a1, .ref a2, .ref a3, .int (nI nl), .int va, .int sg, .int (nI pr), .int sn, .int wk])), (a1, .inl (cI, 10, .inl d)), (ag, .inl (cI, 10, .inl tg))]) rfl ?_
        refine r_aload_n C dX0_make_73 2 rfl ?_
        refine r_get C clX0 dX0_make_74 0 0 rfl (by decide) q_100 rfl ?_
        refine r_iload_n C dX0_make_77 1 rfl ?_
        refine r_iald C dX0_make_78 1 rfl i rfl (by omega) (by decide) ?_
        refine r_top (b := (fwF ((10 * (tg i)) - (d i)) sg)) pk_us ?_
        refine r_aload_n C dX0_make_79 2 rfl ?_
        refine r_get C clX0 dX0_make_80 0 1 rfl (by decide) q_101 rfl ?_
        refine r_iload_n C dX0_make_83 1 rfl ?_
        refine r_iald C dX0_make_84 2 rfl i rfl (by omega) (by decide) ?_
        refine r_top (b := (msF ((((10 * (tg i)) - (d i)) + 10) - 1) sg)) pk_us ?_
        have J_9 : ∀ (v_8 : Int32), v_8 = (if (fwF ((10 * (tg i)) - (d i)) sg) ≤ (msF ((((10 * (tg i)) - (d i)) + 10) - 1) sg) then bb else (bb ||| (1 <<< (nI i &&& 31)))) → Wr G 0 0 100 [(4, .int ((10 * (tg i)) - (d i))), (3, .int (nI i)), (0, .ref p0), (1, .ref h0), (2, .ref ag)] [] [(p0, .inr (0, [.ref p1, .ref p2, .ref p3, .int (nI nl), .int tc, .int v_8])), (p1, .inl (cI, 10, .inl (upd f i (fwF ((10 * (tg i)) - (d i)) sg)))), (p2, .inl (cI, 10, .inl (upd g i (msF ((((10 * (tg i)) - (d i)) + 10) - 1) sg)))), (p3, .inl (cI, 10, .inl to)), (h0, .inr (1, [.ref a1, .ref a2, .ref a3, .int (nI nl), .int va, .int sg, .int (nI pr), .int sn, .int wk])), (a1, .inl (cI, 10, .inl d)), (ag, .inl (cI, 10, .inl tg))] := by
          intro v_8 ev_8
          subst ev_8
          refine r_iinc C dX0_make_100 1 rfl (v := nI (i + 1)) (nI_1 _) (by decide) (lv2 := [(3, .int (nI (i + 1))), (4, .int ((10 * (tg i)) - (d i))), (0, .ref p0), (1, .ref h0), (2, .ref ag)]) rfl ?_
          refine r_goto C dX0_make_103 (tgt := 15) (by decide) ?_
          refine r_lv [0, 2, 3, 4] (lv2 := [(3, .int (nI (i + 1))), (0, .ref p0), (1, .ref h0), (2, .ref ag)]) rfl ?_
          exact ih_15 (i + 1) (by omega) (by omega) _ _ _ (by subst e_f; subst e_g; subst e_bb; rfl) (by subst e_f; subst e_g; subst e_bb; rfl) (by subst e_f; subst e_g; subst e_bb; rfl) 
        refine r_icmp_le C dX0_make_85 (tgt := 100) (by decide) (fun c_7 => ?_) (fun c_7 => ?_)
        · exact J_9 _ (by first | rfl | simp only [if_pos c_7])
        · refine r_aload_n C dX0_make_88 2 rfl ?_
          refine r_dup C dX0_make_89 rfl ?_
          refine r_get C clX0 dX0_make_90 0 5 rfl (by decide) q_106 rfl ?_
          refine r_iconst C dX0_make_93 (v := 1) (by decide) ?_
          refine r_iload_n C dX0_make_94 1 rfl ?_
          refine r_ishl C dX0_make_95 ?_
          refine r_ior C dX0_make_96 ?_
          refine r_put C clX0 dX0_make_97 0 5 rfl (by decide) q_106 rfl rfl rfl (nle rfl) (ws2 := [(p0, .inr (0, [.ref p1, .ref p2, .ref p3, .int (nI nl), .int tc, .int (bb ||| (1 <<< (nI i &&& 31)))])), (p1, .inl (cI, 10, .inl (upd f i (fwF ((10 * (tg i)) - (d i)) sg)))), (p2, .inl (cI, 10, .inl (upd g i (msF ((((10 * (tg i)) - (d i)) + 10) - 1) sg)))), (p3, .inl (cI, 10, .inl to)), (h0, .inr (1, [.ref a1, .ref a2, .ref a3, .int (nI nl), .int va, .int sg, .int (nI pr), .int sn, .int wk])), (a1, .inl (cI, 10, .inl d)), (ag, .inl (cI, 10, .inl tg))]) rfl ?_
          exact J_9 _ (by first | rfl | simp only [if_neg c_7])
  exact L_15 (nl + 1) 0 (by omega) (by omega) _ _ _ rfl rfl rfl 
