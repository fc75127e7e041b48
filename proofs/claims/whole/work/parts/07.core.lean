section Rows2
variable {G : Cxt} {l : Launch} {R : Room} {D : va_G} {cI cR : ClassId} {cc : ByteArray} {nL : Nat} {y : MethodName} {k n pc pc2 : Nat} {lv : List (Nat × Value)} {st : List Value} {ws : va_W}
theorem r_get (C : Ok G l R D cI cR cc nL y) {Cn : String} {T : u_T} {N ci index a : Nat} {ty : Nat → FieldType} {fs : List Value} {v : Value} (K : ClsOk Cn T N ty ci) (hd : Dc cc pc 3 pc2 (.getfield index)) (q0 f : Nat) (he : ws[q0]? = some (a, .inr (ci, fs))) (hf : f < N) (hq : Cond.fieldLink y.cls index Cn (T f).2.1 (T f).2.2.1 ∈ lw_g) (hv : fs[f]? = some v) (kk : Wr G k n pc2 lv (v :: st) ws) : Wr G k n pc lv (.ref a :: st) ws := by
  obtain ⟨p, l, e, R, s, m, args, below, meth, c, D, cI, cR, A, nL, Q⟩ := G
  obtain ⟨⟨rfl, rfl, rfl, rfl, rfl, rfl⟩, hx, hb, hts, hown, hK, hml, hlocks, hA, hN, hmn⟩ := C
  obtain ⟨hd, rfl⟩ := hd
  obtain ⟨K1, K2, K3, K4, K5⟩ := K
  intro H locs ls hP hD hS hl
  exact va_get hx hb hts K1 hown hK hP q0 he K4 f hf (hts _ hq) (fun x h => by rw [K5 f hf] at h; exact h) hv hd (kk H locs ls hP hD hS hl)
theorem r_put (C : Ok G l R D cI cR cc nL y) {Cn : String} {T : u_T} {N ci index a : Nat} {ty : Nat → FieldType} {fs : List Value} {v : Value} {ws2 : va_W} (K : ClsOk Cn T N ty ci) (hd : Dc cc pc 3 pc2 (.putfield index)) (q0 f : Nat) (he : ws[q0]? = some (a, .inr (ci, fs))) (hf : f < N) (hq : Cond.fieldLink y.cls index Cn (T f).2.1 (T f).2.2.1 ∈ lw_g) (hfin : (T f).2.2.2 = false) (hn : narrow (ty f) v = v) (hfit : fits (ty f) v = true) (hfl : f < fs.length) (hw : ws.set q0 (a, .inr (ci, fs.set f v)) = ws2) (kk : Wr G k n pc2 lv st ws2) : Wr G k n pc lv (v :: .ref a :: st) ws := by
  obtain ⟨p, l, e, R, s, m, args, below, meth, c, D, cI, cR, A, nL, Q⟩ := G
  obtain ⟨⟨rfl, rfl, rfl, rfl, rfl, rfl⟩, hx, hb, hts, hown, hK, hml, hlocks, hA, hN, hmn⟩ := C
  obtain ⟨hd, rfl⟩ := hd
  obtain ⟨K1, K2, K3, K4, K5⟩ := K
  subst hw
  intro H locs ls hP hD hS hl
  exact va_put hx hb hts K1 ty K2 K3 hown hK hP hD hS q0 he K4 f hf (hts _ hq) (fun x h => by rw [K5 f hf] at h; exact h) hfin (K2 f hf) hn hfit hfl hd (fun H locs hP hD hS => kk H locs ls hP hD hS hl)
theorem r_putF (C : Ok G l R D cI cR cc nL y) {Cn : String} {T : u_T} {N ci index a : Nat} {ty : Nat → FieldType} {fs : List Value} {v : Value} {ws2 : va_W} (K : ClsOk Cn T N ty ci) (hd : Dc cc pc 3 pc2 (.putfield index)) (q0 f : Nat) (he : ws[q0]? = some (a, .inr (ci, fs))) (hf : f < N) (hq : Cond.fieldLink y.cls index Cn (T f).2.1 (T f).2.2.1 ∈ lw_g) (hfin : (T f).2.2.2 = true) (hy : y.name = "<init>") (hyc : Cn = y.cls) (hn : narrow (ty f) v = v) (hfit : fits (ty f) v = true) (hfl : f < fs.length) (hw : ws.set q0 (a, .inr (ci, fs.set f v)) = ws2) (kk : Wr G k n pc2 lv st ws2) : Wr G k n pc lv (v :: .ref a :: st) ws := by
  obtain ⟨p, l, e, R, s, m, args, below, meth, c, D, cI, cR, A, nL, Q⟩ := G
  obtain ⟨⟨rfl, rfl, rfl, rfl, rfl, rfl⟩, hx, hb, hts, hown, hK, hml, hlocks, hA, hN, hmn⟩ := C
  obtain ⟨hd, rfl⟩ := hd
  obtain ⟨K1, K2, K3, K4, K5⟩ := K
  subst hw
  intro H locs ls hP hD hS hl
  exact va_putF hx hb hts K1 ty K2 K3 hown hK hP hD hS q0 he K4 f hf (hts _ hq) (fun x h => by rw [K5 f hf] at h; exact h) hfin (hmn.trans hy) ((K5 f hf).trans hyc) (K2 f hf) hn hfit hfl hd (fun H locs hP hD hS => kk H locs ls hP hD hS hl)
theorem r_iald (C : Ok G l R D cI cR cc nL y) {a N : Nat} {f : Nat → Int32} {i : Int32} (hd : Dc cc pc 1 pc2 .iaload) (q0 : Nat) (he : ws[q0]? = some (a, .inl (cI, N, .inl f))) (j : Nat) (hi : i = nI j) (hj : j < N) (hN : N < 2147483648) (kk : Wr G k n pc2 lv (.int (f j) :: st) ws) : Wr G k n pc lv (.int i :: .ref a :: st) ws := by
  obtain ⟨p, l, e, R, s, m, args, below, meth, c, D, cI, cR, A, nL, Q⟩ := G
  obtain ⟨⟨rfl, rfl, rfl, rfl, rfl, rfl⟩, hx, hb, hts, hown, hK, hml, hlocks, hA, hN', hmn⟩ := C
  obtain ⟨hd, rfl⟩ := hd
  subst hi
  intro H locs ls hP hD hS hl
  refine va_iald hx hb hK hP q0 0 he rfl (vp_in_nI hj hN) hd ?_
  rw [nI_clamp (Nat.lt_trans hj hN)]
  exact kk H locs ls hP hD hS hl
theorem r_iast (C : Ok G l R D cI cR cc nL y) {a N : Nat} {f : Nat → Int32} {i x : Int32} {ws2 : va_W} (hd : Dc cc pc 1 pc2 .iastore) (q0 : Nat) (he : ws[q0]? = some (a, .inl (cI, N, .inl f))) (j : Nat) (hi : i = nI j) (hj : j < N) (hN : N < 2147483648) (hw : ws.set q0 (a, .inl (cI, N, .inl (upd f j x))) = ws2) (kk : Wr G k n pc2 lv st ws2) : Wr G k n pc lv (.int x :: .int i :: .ref a :: st) ws := by
  obtain ⟨p, l, e, R, s, m, args, below, meth, c, D, cI, cR, A, nL, Q⟩ := G
  obtain ⟨⟨rfl, rfl, rfl, rfl, rfl, rfl⟩, hx, hb, hts, hown, hK, hml, hlocks, hA, hN', hmn⟩ := C
  obtain ⟨hd, rfl⟩ := hd
  subst hi
  subst hw
  intro H locs ls hP hD hS hl
  refine va_iast hx hb hK hP hD hS q0 0 he rfl (vp_in_nI hj hN) hd (fun H locs hP hD hS => ?_)
  rw [nI_clamp (Nat.lt_trans hj hN)] at hP hD
  exact kk H locs ls hP hD hS hl
theorem r_aald (C : Ok G l R D cI cR cc nL y) {a N b : Nat} {f : Nat → Option Nat} {i : Int32} (hd : Dc cc pc 1 pc2 .aaload) (q0 : Nat) (he : ws[q0]? = some (a, .inl (cR, N, .inr (.inr (.inr (.inr f)))))) (j : Nat) (hi : i = nI j) (hj : j < N) (hN : N < 2147483648) (hb0 : f j = some b) (kk : Wr G k n pc2 lv (.ref b :: st) ws) : Wr G k n pc lv (.int i :: .ref a :: st) ws := by
  obtain ⟨p, l, e, R, s, m, args, below, meth, c, D, cI, cR, A, nL, Q⟩ := G
  obtain ⟨⟨rfl, rfl, rfl, rfl, rfl, rfl⟩, hx, hb, hts, hown, hK, hml, hlocks, hA, hN', hmn⟩ := C
  obtain ⟨hd, rfl⟩ := hd
  subst hi
  intro H locs ls hP hD hS hl
  refine va_aldq hx hb hK hP q0 1 he rfl (vp_in_nI hj hN) hd ?_
  rw [nI_clamp (Nat.lt_trans hj hN), hb0]
  exact kk H locs ls hP hD hS hl
theorem r_aast (C : Ok G l R D cI cR cc nL y) {a N v : Nat} {f : Nat → Option Nat} {i : Int32} {vs : List Value} {ws2 : va_W} (hd : Dc cc pc 1 pc2 .aastore) (q0 qk : Nat) (he : ws[q0]? = some (a, .inl (cR, N, .inr (.inr (.inr (.inr f)))))) (hv : ws[qk]? = some (v, .inr (1, vs))) (j : Nat) (hi : i = nI j) (hj : j < N) (hN : N < 2147483648) (hw : ws.set q0 (a, .inl (cR, N, .inr (.inr (.inr (.inr (va_up f j (some v))))))) = ws2) (kk : Wr G k n pc2 lv st ws2) : Wr G k n pc lv (.ref v :: .int i :: .ref a :: st) ws := by
  obtain ⟨p, l, e, R, s, m, args, below, meth, c, D, cI, cR, A, nL, Q⟩ := G
  obtain ⟨⟨rfl, rfl, rfl, rfl, rfl, rfl⟩, hx, hb, hts, hown, hK, hml, hlocks, hA, hN', hmn⟩ := C
  obtain ⟨hd, rfl⟩ := hd
  subst hi
  subst hw
  intro H locs ls hP hD hS hl
  refine va_astq hx hb hK hP hD hS q0 1 qk 1 (r := (RX1, TX1, 9)) he rfl hv rfl (vp_in_nI hj hN) hd (fun H locs hP hD hS => ?_)
  rw [nI_clamp (Nat.lt_trans hj hN)] at hP hD
  exact kk H locs ls hP hD hS hl
/-- a new array of ints: its class is the one that is known -/
theorem r_newi (C : Ok G l R D cI cR cc nL y) {v : Int32} (hd : Dc cc pc 2 pc2 (.newarray .int)) (N : Nat) (hv : v = nI N) (hN : N < 100000) (hc : k + 1 ≤ R.cells) (hs : n + N ≤ R.slots) (kk : ∀ q : Nat, Wr G (k + 1) (n + N) pc2 lv (.ref q :: st) (ws ++ [(q, .inl (cI, N, .inl (fun _ => 0)))])) : Wr G k n pc lv (.int v :: st) ws := by
  obtain ⟨p, l, e, R, s, m, args, below, meth, c, D, cI, cR, A, nL, Q⟩ := G
  obtain ⟨⟨rfl, rfl, rfl, rfl, rfl, rfl⟩, hx, hb, hts, hown, hK, hml, hlocks, hA, hN', hmn⟩ := C
  obtain ⟨hd, rfl⟩ := hd
  subst hv
  intro H locs ls hP hD hS hl
  refine va_newa (atype := .int) (ty := .int) (a0 := (N, .inl (fun _ => 0))) hx hb (hts _ q_AC) rfl hK hP hD hS hA (fun cA => rfl) (nI_pos (by omega)) (nI_clamp (by omega)) (by show N * 4 ≤ _; omega) hc hs hd (fun q cA H1 hK1 hP1 hD1 hS1 => ?_)
  have e1 := (hK.2 0 _ rfl).2
  have e2 := (hK1.2 2 _ rfl).2
  have e3 : cA = cI := Option.some.inj (e2.symm.trans e1)
  subst e3
  exact kk q H1 locs ls hP1 hD1 hS1 hl
theorem r_newq (C : Ok G l R D cI cR cc nL y) {v : Int32} {index : Nat} (hd : Dc cc pc 3 pc2 (.anewarray index)) (hq : Cond.classLink y.cls index "EtchedPlate$Plate" ∈ lw_g) (N : Nat) (hv : v = nI N) (hN : N < 100000) (hc : k + 1 ≤ R.cells) (hs : n + N ≤ R.slots) (kk : ∀ q : Nat, Wr G (k + 1) (n + N) pc2 lv (.ref q :: st) (ws ++ [(q, .inl (cR, N, .inr (.inr (.inr (.inr (fun _ => none))))))])) : Wr G k n pc lv (.int v :: st) ws := by
  obtain ⟨p, l, e, R, s, m, args, below, meth, c, D, cI, cR, A, nL, Q⟩ := G
  obtain ⟨⟨rfl, rfl, rfl, rfl, rfl, rfl⟩, hx, hb, hts, hown, hK, hml, hlocks, hA, hN', hmn⟩ := C
  obtain ⟨hd, rfl⟩ := hd
  subst hv
  intro H locs ls hP hD hS hl
  refine va_newq hx hb hown (hts _ hq) hN'.2.2.2 hK hP hD hS hA (nI_pos (by omega)) (nI_clamp (by omega)) (by omega) hc hs hd (fun q cA H1 hK1 hP1 hD1 hS1 => ?_)
  obtain ⟨kA, comp, a1, a2, a3, e1⟩ := (hK.2 1 _ rfl).2
  obtain ⟨kA2, comp2, b1, b2, b3, e2⟩ := (hK1.2 2 _ rfl).2
  have e3 : cA = cR := Option.some.inj (e2.symm.trans e1)
  subst e3
  exact kk q H1 locs ls hP1 hD1 hS1 hl
theorem r_new (C : Ok G l R D cI cR cc nL y) {Cn : String} {T : u_T} {N ci index : Nat} {ty : Nat → FieldType} {fs : List Value} (K : ClsOk Cn T N ty ci) (hd : Dc cc pc 3 pc2 (.new index)) (hq1 : Cond.classLink y.cls index Cn ∈ lw_g) (hq2 : Cond.instantiable Cn N ∈ lw_g) (hq3 : Cond.initialized Cn ∈ lw_g) (hfs : ∀ j, j < N → defaultValue (ty j) = vp_V fs j) (hc : k + 1 ≤ R.cells) (hs : n + N ≤ R.slots) (kk : ∀ q : Nat, Wr G (k + 1) (n + N) pc2 lv (.ref q :: st) (ws ++ [(q, .inr (ci, fs))])) : Wr G k n pc lv st ws := by
  obtain ⟨p, l, e, R, s, m, args, below, meth, c, D, cI, cR, A, nL, Q⟩ := G
  obtain ⟨⟨rfl, rfl, rfl, rfl, rfl, rfl⟩, hx, hb, hts, hown, hK, hml, hlocks, hA, hN', hmn⟩ := C
  obtain ⟨hd, rfl⟩ := hd
  obtain ⟨K1, K2, K3, K4, K5⟩ := K
  intro H locs ls hP hD hS hl
  exact va_new hx hb hts K1 ty K2 hown (hts _ hq1) (hts _ hq2) (hts _ hq3) hK hP hD hS hA K4 hfs hc hs hd (fun q H1 hP hD hS => kk q H1 locs ls hP hD hS hl)
theorem r_objInit (C : Ok G l R D cI cR cc nL y) {index a : Nat} (hd : Dc cc pc 3 pc2 (.invokespecial index)) (hq1 : Cond.methodLink y.cls index objectInit ∈ lw_g) (hf : 1 ≤ R.frames) (hlo : (st.map fun v => v.category).sum + 12 ≤ R.locals) (kk : Wr G k n pc2 lv st ws) : Wr G k n pc lv (.ref a :: st) ws := by
  obtain ⟨p, l, e, R, s, m, args, below, meth, c, D, cI, cR, A, nL, Q⟩ := G
  obtain ⟨⟨rfl, rfl, rfl, rfl, rfl, rfl⟩, hx, hb, hts, hown, hK, hml, hlocks, hA, hN', hmn⟩ := C
  obtain ⟨hd, rfl⟩ := hd
  intro H locs ls hP hD hS hl
  refine W.objInit (g := F0 m pc ls (.ref a :: st)) hx hb hown (hts _ hq1) (hts _ q_OI) (hts _ q_OC) rfl (by rw [hml]; exact hl.1) rfl hd hf (by show 2 * 0 + _ + 12 ≤ _; omega) ?_
  exact kk H locs ls hP hD hS hl
theorem r_mmin (C : Ok G l R D cI cR cc nL y) {index : Nat} {x z : Int32} (hd : Dc cc pc 3 pc2 (.invokestatic index)) (hq1 : Cond.methodLink y.cls index Lib.Math.min.name ∈ lw_g) (hf : 1 ≤ R.frames) (hlo : (st.map fun v => v.category).sum + 13 ≤ R.locals) (hc : k ≤ R.cells) (hs : n ≤ R.slots) (kk : Wr G k n pc2 lv (.int (if z < x then z else x) :: st) ws) : Wr G k n pc lv (.int z :: .int x :: st) ws := by
  obtain ⟨p, l, e, R, s, m, args, below, meth, c, D, cI, cR, A, nL, Q⟩ := G
  obtain ⟨⟨rfl, rfl, rfl, rfl, rfl, rfl⟩, hx, hb, hts, hown, hK, hml, hlocks, hA, hN', hmn⟩ := C
  obtain ⟨hd, rfl⟩ := hd
  intro H locs ls hP hD hS hl
  exact va_mmin hx hb (by rw [hml]; exact hl.1.symm) hown (hts _ hq1) (hts _ q_MinS) (hts _ q_MI) (hts _ q_MinC) hf hlo hc hs hd (kk H locs ls hP hD hS hl)
theorem r_mmax (C : Ok G l R D cI cR cc nL y) {index : Nat} {x z : Int32} (hd : Dc cc pc 3 pc2 (.invokestatic index)) (hq1 : Cond.methodLink y.cls index Lib.Math.max.name ∈ lw_g) (hf : 1 ≤ R.frames) (hlo : (st.map fun v => v.category).sum + 13 ≤ R.locals) (hc : k ≤ R.cells) (hs : n ≤ R.slots) (kk : Wr G k n pc2 lv (.int (if x < z then z else x) :: st) ws) : Wr G k n pc lv (.int z :: .int x :: st) ws := by
  obtain ⟨p, l, e, R, s, m, args, below, meth, c, D, cI, cR, A, nL, Q⟩ := G
  obtain ⟨⟨rfl, rfl, rfl, rfl, rfl, rfl⟩, hx, hb, hts, hown, hK, hml, hlocks, hA, hN', hmn⟩ := C
  obtain ⟨hd, rfl⟩ := hd
  intro H locs ls hP hD hS hl
  exact va_mmax hx hb (by rw [hml]; exact hl.1.symm) hown (hts _ hq1) (hts _ q_MaxS) (hts _ q_MI) (hts _ q_MaxC) hf hlo hc hs hd (kk H locs ls hP hD hS hl)
theorem r_mabs (C : Ok G l R D cI cR cc nL y) {index : Nat} {x : Int32} (hd : Dc cc pc 3 pc2 (.invokestatic index)) (hq1 : Cond.methodLink y.cls index Lib.Math.abs.name ∈ lw_g) (hf : 1 ≤ R.frames) (hlo : (st.map fun v => v.category).sum + 13 ≤ R.locals) (hc : k ≤ R.cells) (hs : n ≤ R.slots) (kk : Wr G k n pc2 lv (.int (if 0 ≤ x then x else 0 - x) :: st) ws) : Wr G k n pc lv (.int x :: st) ws := by
  obtain ⟨p, l, e, R, s, m, args, below, meth, c, D, cI, cR, A, nL, Q⟩ := G
  obtain ⟨⟨rfl, rfl, rfl, rfl, rfl, rfl⟩, hx, hb, hts, hown, hK, hml, hlocks, hA, hN', hmn⟩ := C
  obtain ⟨hd, rfl⟩ := hd
  intro H locs ls hP hD hS hl
  exact va_mabs hx hb (by rw [hml]; exact hl.1.symm) hown (hts _ hq1) (hts _ q_AbsS) (hts _ q_MI) (hts _ q_AbsC) hf hlo hc hs hd (kk H locs ls hP hD hS hl)
/-- a copy of a whole row of ints -/
theorem r_copy (C : Ok G l R D cI cR cc nL y) {index a b N : Nat} {f g : Nat → Int32} {v : Int32} {ws2 : va_W} (hd : Dc cc pc 3 pc2 (.invokestatic index)) (hq1 : Cond.methodLink y.cls index arraycopyName ∈ lw_g) (q0 q1 : Nat) (he0 : ws[q0]? = some (a, .inl (cI, N, .inl f))) (he1 : ws[q1]? = some (b, .inl (cI, N, .inl g))) (hv : v = nI N) (hN : N < 100000) (hf : 1 ≤ R.frames) (hlo : (st.map fun v => v.category).sum + (nativeFrameWords "java/lang/System" "arraycopy" 5 + 11) ≤ R.locals) (hw : ws.set q1 (b, .inl (cI, N, .inl (va_cpy f g 0 0 N))) = ws2) (kk : Wr G k n pc2 lv st ws2) : Wr G k n pc lv (.int v :: .int 0 :: .ref b :: .int 0 :: .ref a :: st) ws := by
  obtain ⟨p, l, e, R, s, m, args, below, meth, c, D, cI, cR, A, nL, Q⟩ := G
  obtain ⟨⟨rfl, rfl, rfl, rfl, rfl, rfl⟩, hx, hb, hts, hown, hK, hml, hlocks, hA, hN', hmn⟩ := C
  obtain ⟨hd, rfl⟩ := hd
  subst hw
  subst hv
  intro H locs ls hP hD hS hl
  have hz : (nI N).toNatClampNeg = N := nI_clamp (by omega)
  have h0 : (0 : Int32).toNatClampNeg = 0 := rfl
  refine va_copyi hx hb (by rw [hml]; exact hl.1.symm) hown (hts _ hq1) (hts _ q_CpN) (hts _ q_CpS) (hts _ q_SI) hK hP hD hS q0 q1 0 0 he0 he1 rfl rfl rfl (by decide) (by decide) (nI_pos (by omega)) (by rw [hz, h0]; omega) (by rw [hz, h0]; omega) (fun i hi => rfl) hf hlo hd (fun H locs hP hD hS => ?_)
  rw [hz, h0] at hP hD
  exact kk H locs ls hP hD hS hl
/-! ends -/
theorem r_iret (C : Ok G l R D cI cR cc nL y) {Post : Option Value → va_W → Prop} {mc ms : Nat} {v : Int32} (E : En G (some .int) Post mc ms) (hd : Dc cc pc 1 pc2 .ireturn) (hk : k ≤ mc) (hn : n ≤ ms) (hp : Post (some (.int v)) ws) : Wr G k n pc lv [.int v] ws := by
  obtain ⟨p, l, e, R, s, m, args, below, meth, c, D, cI, cR, A, nL, Q⟩ := G
  obtain ⟨⟨rfl, rfl, rfl, rfl, rfl, rfl⟩, hx, hb, hts, hown, hK, hml, hlocks, hA, hN', hmn⟩ := C
  obtain ⟨Qc, free, hQ, hr, hfr, hq⟩ := E
  obtain ⟨hd, rfl⟩ := hd
  intro H locs ls hP hD hS hl
  refine W.widen hk hn ?_
  rw [hQ]
  exact W.iret hx hb hr (fun t ht hW => hq _ ws H locs t hp hP hD hS ht hW) (fun q h => hfr _ (hS.2.2 q h)) hd hlocks
theorem r_zret (C : Ok G l R D cI cR cc nL y) {Post : Option Value → va_W → Prop} {mc ms : Nat} {v : Int32} (E : En G (some .boolean) Post mc ms) (hd : Dc cc pc 1 pc2 .ireturn) (hk : k ≤ mc) (hn : n ≤ ms) (hz : narrow .boolean (.int v) = .int v) (hp : Post (some (.int v)) ws) : Wr G k n pc lv [.int v] ws := by
  obtain ⟨p, l, e, R, s, m, args, below, meth, c, D, cI, cR, A, nL, Q⟩ := G
  obtain ⟨⟨rfl, rfl, rfl, rfl, rfl, rfl⟩, hx, hb, hts, hown, hK, hml, hlocks, hA, hN', hmn⟩ := C
  obtain ⟨Qc, free, hQ, hr, hfr, hq⟩ := E
  obtain ⟨hd, rfl⟩ := hd
  intro H locs ls hP hD hS hl
  refine W.widen hk hn ?_
  rw [hQ]
  exact W.zret hx hb hr hz (fun t ht hW => hq _ ws H locs t hp hP hD hS ht hW) (fun q h => hfr _ (hS.2.2 q h)) hd hlocks
theorem r_lret (C : Ok G l R D cI cR cc nL y) {Post : Option Value → va_W → Prop} {mc ms : Nat} {v : Int64} (E : En G (some .long) Post mc ms) (hd : Dc cc pc 1 pc2 .lreturn) (hk : k ≤ mc) (hn : n ≤ ms) (hp : Post (some (.long v)) ws) : Wr G k n pc lv [.long v] ws := by
  obtain ⟨p, l, e, R, s, m, args, below, meth, c, D, cI, cR, A, nL, Q⟩ := G
  obtain ⟨⟨rfl, rfl, rfl, rfl, rfl, rfl⟩, hx, hb, hts, hown, hK, hml, hlocks, hA, hN', hmn⟩ := C
  obtain ⟨Qc, free, hQ, hr, hfr, hq⟩ := E
  obtain ⟨hd, rfl⟩ := hd
  intro H locs ls hP hD hS hl
  refine W.widen hk hn ?_
  rw [hQ]
  exact W.lret hx hb hr (fun t ht hW => hq _ ws H locs t hp hP hD hS ht hW) (fun q h => hfr _ (hS.2.2 q h)) hd hlocks
theorem r_vret (C : Ok G l R D cI cR cc nL y) {Post : Option Value → va_W → Prop} {mc ms : Nat} (E : En G none Post mc ms) (hd : Dc cc pc 1 pc2 .return_) (hk : k ≤ mc) (hn : n ≤ ms) (hp : Post none ws) : Wr G k n pc lv [] ws := by
  obtain ⟨p, l, e, R, s, m, args, below, meth, c, D, cI, cR, A, nL, Q⟩ := G
  obtain ⟨⟨rfl, rfl, rfl, rfl, rfl, rfl⟩, hx, hb, hts, hown, hK, hml, hlocks, hA, hN', hmn⟩ := C
  obtain ⟨Qc, free, hQ, hr, hfr, hq⟩ := E
  obtain ⟨hd, rfl⟩ := hd
  intro H locs ls hP hD hS hl
  refine W.widen hk hn ?_
  rw [hQ]
  exact W.vret hx hb hr (fun t ht hW => hq _ ws H locs t hp hP hD hS ht hW) (fun q h => hfr _ (hS.2.2 q h)) hd hlocks
/-! contracts -/
def rQ (D : va_G) (Post : Option Value → va_W → Prop) (A : Nat → Prop) : Array Value → State → Outcome → State → Prop := fun _ st oc t => ∃ (v : Option Value) (w : va_W), oc = .returned v ∧ Post v w ∧ va_P D vwCl w t.heap ∧ va_D A w ∧ va_F A st t
def Ctr (l : Launch) (D : va_G) (cI cR : ClassId) (y : MethodName) (cc : ByteArray) (maxL : Nat) (ret : Option FieldType) (rm : Room) (av : List Value) (w : va_W) (Post : Option Value → va_W → Prop) : Prop := ∀ sz : Nat, Met l y (.code y cc maxL ret :: lw_g) rm (va_Pc av (fun U => U.heap.size = sz ∧ va_P D vwCl w U.heap ∧ va_K D vwCl (tysE cI cR) U ∧ va_D (fun _ => True) w ∧ nestOk U)) (rQ D Post (va_A w sz)) rm.cells rm.slots (va_A w sz)
theorem ctr_of {maxL : Nat} {ret : Option FieldType} {av : List Value} {lv0 : List (Nat × Value)} {w : va_W} {Post : Option Value → va_W → Prop} (hy : plainName y.cls = true) (hlen : (lg_sl av).length ≤ maxL) (hlv : lv_args 0 av = lv0) (body : ∀ G : Cxt, Ok G l R D cI cR cc maxL y → En G ret Post R.cells R.slots → Wr G 0 0 0 lv0 [] w) : Ctr l D cI cR y cc maxL ret R av w Post := by
  intro sz
  refine Met.ofW (cc := cc) (maxL := maxL) (ret := ret) hy rfl ?_
  intro p e s m args below meth c s₁ B hml hv
  obtain ⟨rfl, hsz, hP, hK, hD0, hN⟩ := hv
  subst hsz
  have hts := atoms_spec (ws := .code y cc maxL ret :: lw_g) B.pre
  have hl := lv_entry av (n := maxL) hlen
  rw [hlv] at hl
  rw [lg_entry_eq]
  have hA : ∀ q : Nat, s.heap.size ≤ q → va_A w s.heap.size q := fun q h => Or.inr h
  exact body (p, l, e, R, s, m, av.toArray, below, meth, c, D, cI, cR, va_A w s.heap.size, maxL, MQ below (rQ D Post (va_A w s.heap.size)) av.toArray s R.cells R.slots (va_A w s.heap.size)) ⟨⟨rfl, rfl, rfl, rfl, rfl, rfl⟩, B.exec, B.bytes, fun w h => hts w (List.mem_cons_of_mem _ h), findClass_of_methodNamed B.named, hK, hml, B.notSynchronized, hA, hN, (name_of_methodNamed B.named B.method).1⟩
    ⟨_, _, rfl, B.returns, fun q h => h, fun v ws H locs t hp hP hD hS ht hW => ⟨v, ws, rfl, hp, by rw [ht]; exact hP, hD, hS.F ht⟩⟩ s.heap [] _ hP (hD0.self (sz := s.heap.size)) va_S.rf hl
/-- the words of a method that is called -/
def CalOk (y : MethodName) (cc : ByteArray) (maxL : Nat) (ret : Option FieldType) (np : Nat) : Prop := Cond.initialized y.cls ∈ lw_g ∧ Cond.code y cc maxL ret ∈ lw_g ∧ (y.cls ≠ "java/lang/invoke/MethodHandle" ∧ y.cls ≠ "java/lang/invoke/VarHandle" ∧ (parseMethodDescriptor y.desc).map (fun d => d.parameters.length) = some np)
theorem goodG {ws : List Cond} (h : ∀ w ∈ ws, w ∈ lw_g) : GoodIn lw_g ws := fun w hw => ⟨h w hw, good_of_word (List.mem_filter.mp (h w hw)).2⟩
/-- behind a call of any kind -/
theorem r_back {p : Program} {l : Launch} {e : Env} {R : Room} {s : State} {m : MethodId} {args : Array Value} {below : List Frame} {meth : Method} {c : Code} {D : va_G} {cI cR : ClassId} {A : Nat → Prop} {nL : Nat} {Q : State → Prop} {mc ms : Nat} {rest st0 : List Value} {a : Array Value} {H : Heap} {locs : List Loc} {ls : Array Slot} {wc wr : va_W} {Post : Option Value → va_W → Prop}
    (hr : va_Run p l e R s m args below meth c H locs k n mc ms (F0 m pc ls st0) rest (rQ D Post (va_A wc H.size) a) (va_A wc H.size)) (hP : va_P D vwCl ws H) (hD : va_D A ws) (hS : va_S A s.heap H locs) (hA : ∀ q, s.heap.size ≤ q → A q) (hl : lv_has ls nL lv) (isC isR : List Nat) (hC : isC.map (fun i => ws[i]?) = wc.map some) (hR : isR.map (fun i => ws[i]?) = wr.map some) (hnd : va_nd isR = true) (hdis : ∀ i ∈ isR, i ∉ isC)
    (kk : ∀ (v : Option Value) (w : va_W), Post v w → Wr (p, l, e, R, s, m, args, below, meth, c, D, cI, cR, A, nL, Q) (k + mc) (n + ms) (pc + 3) lv (v.toList ++ rest) (wr ++ w)) : W p l e R s m args below meth c H locs k n Q (F0 m pc ls st0) := by
  have hF := va_free (wc := wc) hD hS hA isC hC
  intro T hT X
  obtain ⟨v, st₀, t, T', L, h0, X', hL, e1, e2, ⟨v', w, hv, hp, hPw, hDw, hz, hk⟩, st⟩ := hr T hT X
  cases hv
  rw [h0] at hz hk
  rw [← e1] at hPw hz
  obtain ⟨hP2, hD2⟩ := va_join hP hD isC isR hC hR hnd hdis (H1 := T'.heap) (fun q h1 h2 => by rw [e1]; exact hk q h1 h2) hF hPw hDw
  obtain ⟨t2, a1, b1⟩ := kk v w hp T'.heap (locs ++ L) ls hP2 hD2
    ⟨Nat.le_trans hS.1 hz, fun q h1 h2 => by rw [e1, hk q (Nat.lt_of_lt_of_le h1 hS.1) (fun z => h2 (hF q z))]; exact hS.2.1 q h1 h2, fun q hq => by
      rcases List.mem_append.mp hq with h | h
      · exact hS.2.2 q h
      · exact hF _ (hL q h)⟩ hl T' rfl X'
  exact ⟨t2, st t2 a1, b1⟩
theorem r_callV (C : Ok G l R D cI cR cc nL y) {y2 : MethodName} {cc2 : ByteArray} {maxL : Nat} {ret : Option FieldType} {rm : Room} {As rest : List Value} {b index ci np : Nat} {T : u_T} {N : Nat} {fs : List Value} {wc wr : va_W} {Post : Option Value → va_W → Prop} (hM : Ctr l D cI cR y2 cc2 maxL ret rm (.ref b :: As) wc Post) (ck : CalOk y2 cc2 maxL ret np) (hn1 : As.length = np) (hd : Dc cc pc 3 pc2 (.invokevirtual index)) (hq1 : Cond.methodLink y.cls index y2 ∈ lw_g) (hq2 : Cond.instanceMethod y2 ∈ lw_g) (hq3 : Cond.selects y2.cls y2 y2 ∈ lw_g) (hR : rm.frames + 1 ≤ R.frames ∧ 8 + (maxL + 11) + rm.locals ≤ R.locals) (isC isR : List Nat) (hC : isC.map (fun i => ws[i]?) = wc.map some) (hRr : isR.map (fun i => ws[i]?) = wr.map some) (hnC : va_nd isC = true) (hnd : va_nd isR = true) (hdis : ∀ i ∈ isR, i ∉ isC) (q0 : Nat) (hrv : wc[q0]? = some (b, .inr (ci, fs))) (hcl : vwCl[ci]? = some (y2.cls, T, N)) (hst : st = As.reverse ++ .ref b :: rest) (hrm : (rest.map fun v => v.category).sum ≤ 8) (hroom : k + rm.cells ≤ R.cells ∧ n + rm.slots ≤ R.slots)
    (kk : ∀ (v : Option Value) (w : va_W), Post v w → Wr G (k + rm.cells) (n + rm.slots) pc2 lv (v.toList ++ rest) (wr ++ w)) : Wr G k n pc lv st ws := by
  obtain ⟨p, l, e, R, s, m, args, below, meth, c, D, cI, cR, A, nL, Q⟩ := G
  obtain ⟨⟨rfl, rfl, rfl, rfl, rfl, rfl⟩, hx, hb, hts, hown, hK, hml, hlocks, hA, hN', hmn⟩ := C
  obtain ⟨hd, rfl⟩ := hd
  obtain ⟨c1, c2, c3⟩ := ck
  subst hn1
  intro H locs ls hP hD hS hl
  have hPc : va_P D vwCl wc H := by
    intro j q hq
    have h1 : (isC.map (fun i => ws[i]?))[j]? = some (some q) := by rw [hC, List.getElem?_map, hq]; rfl
    rw [List.getElem?_map] at h1
    cases hi : isC[j]? with
    | none => rw [hi] at h1; cases h1
    | some i => rw [hi] at h1; exact hP i q (Option.some.inj h1)
  have hDc := hD.sub isC hnC hC
  refine r_back (va_runV (As := As) (rest := rest) ⟨hx, hb, hml, hown, hts⟩ (hM H.size) (cwV _ hts (goodG (fun w hw => ?_)) rfl rfl rfl ⟨rfl, c3⟩ hR) ⟨fun a U g mk q => ⟨q.1, q.2.1, q.2.2.1, va_K.moved (u := U) (U := U.calling g mk a) (Vm.Alike.refl U.vm) q.2.2.2.1, q.2.2.2.2.1, q.2.2.2.2.2.calling⟩, va_recv hK hPc hcl hrv, fun U hU hW => ⟨rfl, by rw [hU], by rw [hU]; exact hPc, va_K.moved hW.alike hK, hDc.weaken (fun _ _ _ _ => trivial), hN'.moved hW⟩⟩ rfl rfl hl.1 hst (lv_room hrm) hd hroom) hP hD hS hA hl isC isR hC hRr hnd hdis kk
  rcases List.mem_append.mp hw with h | h
  · simp only [List.mem_cons, List.not_mem_nil, or_false] at h
    rcases h with rfl | rfl | rfl | rfl
    · exact hq1
    · exact hq2
    · exact hq3
    · exact c1
  · rcases List.mem_cons.mp h with rfl | h
    · exact c2
    · exact h
theorem r_callS (C : Ok G l R D cI cR cc nL y) {y2 : MethodName} {cc2 : ByteArray} {maxL : Nat} {ret : Option FieldType} {rm : Room} {As rest : List Value} {index np : Nat} {wc wr : va_W} {Post : Option Value → va_W → Prop} (hM : Ctr l D cI cR y2 cc2 maxL ret rm (As) wc Post) (ck : CalOk y2 cc2 maxL ret np) (hn1 : As.length = np) (hd : Dc cc pc 3 pc2 (.invokestatic index)) (hq1 : Cond.methodLink y.cls index y2 ∈ lw_g) (hq2 : Cond.static y2 ∈ lw_g) (hR : rm.frames + 1 ≤ R.frames ∧ 8 + (maxL + 11) + rm.locals ≤ R.locals) (isC isR : List Nat) (hC : isC.map (fun i => ws[i]?) = wc.map some) (hRr : isR.map (fun i => ws[i]?) = wr.map some) (hnC : va_nd isC = true) (hnd : va_nd isR = true) (hdis : ∀ i ∈ isR, i ∉ isC) (hst : st = As.reverse ++ rest) (hrm : (rest.map fun v => v.category).sum ≤ 8) (hroom : k + rm.cells ≤ R.cells ∧ n + rm.slots ≤ R.slots)
    (kk : ∀ (v : Option Value) (w : va_W), Post v w → Wr G (k + rm.cells) (n + rm.slots) pc2 lv (v.toList ++ rest) (wr ++ w)) : Wr G k n pc lv st ws := by
  obtain ⟨p, l, e, R, s, m, args, below, meth, c, D, cI, cR, A, nL, Q⟩ := G
  obtain ⟨⟨rfl, rfl, rfl, rfl, rfl, rfl⟩, hx, hb, hts, hown, hK, hml, hlocks, hA, hN', hmn⟩ := C
  obtain ⟨hd, rfl⟩ := hd
  obtain ⟨c1, c2, c3⟩ := ck
  subst hn1
  intro H locs ls hP hD hS hl
  have hPc : va_P D vwCl wc H := by
    intro j q hq
    have h1 : (isC.map (fun i => ws[i]?))[j]? = some (some q) := by rw [hC, List.getElem?_map, hq]; rfl
    rw [List.getElem?_map] at h1
    cases hi : isC[j]? with
    | none => rw [hi] at h1; cases h1
    | some i => rw [hi] at h1; exact hP i q (Option.some.inj h1)
  have hDc := hD.sub isC hnC hC
  refine r_back (va_runS (As := As) (rest := rest) ⟨hx, hb, hml, hown, hts⟩ (hM H.size) (va_cwS _ hts (goodG (fun w hw => ?_)) rfl rfl rfl c3 hR) ⟨fun a U g mk q => ⟨q.1, q.2.1, q.2.2.1, va_K.moved (u := U) (U := U.calling g mk a) (Vm.Alike.refl U.vm) q.2.2.2.1, q.2.2.2.2.1, q.2.2.2.2.2.calling⟩, fun U hU hW => ⟨rfl, by rw [hU], by rw [hU]; exact hPc, va_K.moved hW.alike hK, hDc.weaken (fun _ _ _ _ => trivial), hN'.moved hW⟩⟩ rfl rfl hl.1 hst (lv_room hrm) hd hroom) hP hD hS hA hl isC isR hC hRr hnd hdis kk
  rcases List.mem_append.mp hw with h | h
  · simp only [List.mem_cons, List.not_mem_nil, or_false] at h
    rcases h with rfl | rfl | rfl
    · exact hq1
    · exact hq2
    · exact c1
  · rcases List.mem_cons.mp h with rfl | h
    · exact c2
    · exact h
theorem r_callSN (C : Ok G l R D cI cR cc nL y) {y2 : MethodName} {cc2 : ByteArray} {maxL : Nat} {ret : Option FieldType} {rm : Room} {As rest : List Value} {index np : Nat} {wc wr : va_W} {Post : Option Value → va_W → Prop} (hM : Ctr l D cI cR y2 cc2 maxL ret rm (As) wc Post) (ck : CalOk y2 cc2 maxL ret np) (hn1 : As.length = np) (hd : Dc cc pc 3 pc2 (.invokestatic index)) (host : String) (hq1 : ∀ U : State, nestOk U → va_Nw (.methodLinkNest y.cls index y2 host) U) (hq2 : Cond.static y2 ∈ lw_g) (hR : rm.frames + 1 ≤ R.frames ∧ 8 + (maxL + 11) + rm.locals ≤ R.locals) (isC isR : List Nat) (hC : isC.map (fun i => ws[i]?) = wc.map some) (hRr : isR.map (fun i => ws[i]?) = wr.map some) (hnC : va_nd isC = true) (hnd : va_nd isR = true) (hdis : ∀ i ∈ isR, i ∉ isC) (hst : st = As.reverse ++ rest) (hrm : (rest.map fun v => v.category).sum ≤ 8) (hroom : k + rm.cells ≤ R.cells ∧ n + rm.slots ≤ R.slots)
    (kk : ∀ (v : Option Value) (w : va_W), Post v w → Wr G (k + rm.cells) (n + rm.slots) pc2 lv (v.toList ++ rest) (wr ++ w)) : Wr G k n pc lv st ws := by
  obtain ⟨p, l, e, R, s, m, args, below, meth, c, D, cI, cR, A, nL, Q⟩ := G
  obtain ⟨⟨rfl, rfl, rfl, rfl, rfl, rfl⟩, hx, hb, hts, hown, hK, hml, hlocks, hA, hN', hmn⟩ := C
  obtain ⟨hd, rfl⟩ := hd
  obtain ⟨c1, c2, c3⟩ := ck
  subst hn1
  intro H locs ls hP hD hS hl
  have hPc : va_P D vwCl wc H := by
    intro j q hq
    have h1 : (isC.map (fun i => ws[i]?))[j]? = some (some q) := by rw [hC, List.getElem?_map, hq]; rfl
    rw [List.getElem?_map] at h1
    cases hi : isC[j]? with
    | none => rw [hi] at h1; cases h1
    | some i => rw [hi] at h1; exact hP i q (Option.some.inj h1)
  have hDc := hD.sub isC hnC hC
  refine r_back (va_runSN (As := As) (rest := rest) ⟨hx, hb, hml, hown, hts⟩ (hM H.size) ⟨va_cnB _ hts (goodG (fun w hw => ?_)) rfl rfl rfl (hq1 s hN') (hts _ c1) c3 hR, hts _ hq2, trivial⟩ ⟨fun a U g mk q => ⟨q.1, q.2.1, q.2.2.1, va_K.moved (u := U) (U := U.calling g mk a) (Vm.Alike.refl U.vm) q.2.2.2.1, q.2.2.2.2.1, q.2.2.2.2.2.calling⟩, fun U hU hW => ⟨rfl, by rw [hU], by rw [hU]; exact hPc, va_K.moved hW.alike hK, hDc.weaken (fun _ _ _ _ => trivial), hN'.moved hW⟩⟩ rfl rfl hl.1 hst (lv_room hrm) hd hroom) hP hD hS hA hl isC isR hC hRr hnd hdis kk
  rcases List.mem_cons.mp hw with rfl | h
  · exact c2
  · exact h
theorem r_callI (C : Ok G l R D cI cR cc nL y) {y2 : MethodName} {cc2 : ByteArray} {maxL : Nat} {rm : Room} {As rest : List Value} {b index np : Nat} {wc wr : va_W} {Post : Option Value → va_W → Prop} (hM : Ctr l D cI cR y2 cc2 maxL none rm (.ref b :: As) wc Post) (ck : CalOk y2 cc2 maxL none np) (hn1 : As.length = np) (hd : Dc cc pc 3 pc2 (.invokespecial index)) (hq1 : Cond.methodLink y.cls index y2 ∈ lw_g) (hq2 : Cond.instanceMethod y2 ∈ lw_g) (hq3 : y2.name = "<init>") (hR : rm.frames + 1 ≤ R.frames ∧ 8 + (maxL + 11) + rm.locals ≤ R.locals) (isC isR : List Nat) (hC : isC.map (fun i => ws[i]?) = wc.map some) (hRr : isR.map (fun i => ws[i]?) = wr.map some) (hnC : va_nd isC = true) (hnd : va_nd isR = true) (hdis : ∀ i ∈ isR, i ∉ isC) (hst : st = As.reverse ++ .ref b :: rest) (hrm : (rest.map fun v => v.category).sum ≤ 8) (hroom : k + rm.cells ≤ R.cells ∧ n + rm.slots ≤ R.slots)
    (kk : ∀ (v : Option Value) (w : va_W), Post v w → Wr G (k + rm.cells) (n + rm.slots) pc2 lv (v.toList ++ rest) (wr ++ w)) : Wr G k n pc lv st ws := by
  obtain ⟨p, l, e, R, s, m, args, below, meth, c, D, cI, cR, A, nL, Q⟩ := G
  obtain ⟨⟨rfl, rfl, rfl, rfl, rfl, rfl⟩, hx, hb, hts, hown, hK, hml, hlocks, hA, hN', hmn⟩ := C
  obtain ⟨hd, rfl⟩ := hd
  obtain ⟨c1, c2, c3⟩ := ck
  subst hn1
  intro H locs ls hP hD hS hl
  have hPc : va_P D vwCl wc H := by
    intro j q hq
    have h1 : (isC.map (fun i => ws[i]?))[j]? = some (some q) := by rw [hC, List.getElem?_map, hq]; rfl
    rw [List.getElem?_map] at h1
    cases hi : isC[j]? with
    | none => rw [hi] at h1; cases h1
    | some i => rw [hi] at h1; exact hP i q (Option.some.inj h1)
  have hDc := hD.sub isC hnC hC
  refine r_back (va_runI (As := As) (rest := rest) ⟨hx, hb, hml, hown, hts⟩ (hM H.size) (cwI _ hts (goodG (fun w hw => ?_)) rfl rfl rfl (hts _ c1) (hts _ hq1) (hts _ hq2) hq3 c3 hR) ⟨fun a U g mk q => ⟨q.1, q.2.1, q.2.2.1, va_K.moved (u := U) (U := U.calling g mk a) (Vm.Alike.refl U.vm) q.2.2.2.1, q.2.2.2.2.1, q.2.2.2.2.2.calling⟩, fun U hU hW => ⟨rfl, by rw [hU], by rw [hU]; exact hPc, va_K.moved hW.alike hK, hDc.weaken (fun _ _ _ _ => trivial), hN'.moved hW⟩⟩ rfl rfl hl.1 hst (lv_room hrm) hd hroom) hP hD hS hA hl isC isR hC hRr hnd hdis kk
  rcases List.mem_cons.mp hw with rfl | h
  · exact c2
  · exact h
theorem r_callIN (C : Ok G l R D cI cR cc nL y) {y2 : MethodName} {cc2 : ByteArray} {maxL : Nat} {rm : Room} {As rest : List Value} {b index np : Nat} {wc wr : va_W} {Post : Option Value → va_W → Prop} (hM : Ctr l D cI cR y2 cc2 maxL none rm (.ref b :: As) wc Post) (ck : CalOk y2 cc2 maxL none np) (hn1 : As.length = np) (hd : Dc cc pc 3 pc2 (.invokespecial index)) (host : String) (hq1 : ∀ U : State, nestOk U → va_Nw (.methodLinkNest y.cls index y2 host) U) (hq2 : Cond.instanceMethod y2 ∈ lw_g) (hq3 : y2.name = "<init>") (hR : rm.frames + 1 ≤ R.frames ∧ 8 + (maxL + 11) + rm.locals ≤ R.locals) (isC isR : List Nat) (hC : isC.map (fun i => ws[i]?) = wc.map some) (hRr : isR.map (fun i => ws[i]?) = wr.map some) (hnC : va_nd isC = true) (hnd : va_nd isR = true) (hdis : ∀ i ∈ isR, i ∉ isC) (hst : st = As.reverse ++ .ref b :: rest) (hrm : (rest.map fun v => v.category).sum ≤ 8) (hroom : k + rm.cells ≤ R.cells ∧ n + rm.slots ≤ R.slots)
    (kk : ∀ (v : Option Value) (w : va_W), Post v w → Wr G (k + rm.cells) (n + rm.slots) pc2 lv (v.toList ++ rest) (wr ++ w)) : Wr G k n pc lv st ws := by
  obtain ⟨p, l, e, R, s, m, args, below, meth, c, D, cI, cR, A, nL, Q⟩ := G
  obtain ⟨⟨rfl, rfl, rfl, rfl, rfl, rfl⟩, hx, hb, hts, hown, hK, hml, hlocks, hA, hN', hmn⟩ := C
  obtain ⟨hd, rfl⟩ := hd
  obtain ⟨c1, c2, c3⟩ := ck
  subst hn1
  intro H locs ls hP hD hS hl
  have hPc : va_P D vwCl wc H := by
    intro j q hq
    have h1 : (isC.map (fun i => ws[i]?))[j]? = some (some q) := by rw [hC, List.getElem?_map, hq]; rfl
    rw [List.getElem?_map] at h1
    cases hi : isC[j]? with
    | none => rw [hi] at h1; cases h1
    | some i => rw [hi] at h1; exact hP i q (Option.some.inj h1)
  have hDc := hD.sub isC hnC hC
  refine r_back (va_runIN (As := As) (rest := rest) ⟨hx, hb, hml, hown, hts⟩ (hM H.size) ⟨va_cnB _ hts (goodG (fun w hw => ?_)) rfl rfl rfl (hq1 s hN') (hts _ c1) c3 hR, hq3, hts _ hq2⟩ ⟨fun a U g mk q => ⟨q.1, q.2.1, q.2.2.1, va_K.moved (u := U) (U := U.calling g mk a) (Vm.Alike.refl U.vm) q.2.2.2.1, q.2.2.2.2.1, q.2.2.2.2.2.calling⟩, fun U hU hW => ⟨rfl, by rw [hU], by rw [hU]; exact hPc, va_K.moved hW.alike hK, hDc.weaken (fun _ _ _ _ => trivial), hN'.moved hW⟩⟩ rfl rfl hl.1 hst (lv_room hrm) hd hroom) hP hD hS hA hl isC isR hC hRr hnd hdis kk
  rcases List.mem_cons.mp hw with rfl | h
  · exact c2
  · exact h
end Rows2
