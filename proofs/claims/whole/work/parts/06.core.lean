/-! THE JUDGEMENT Wr (a machine at a place, with its locals, its stack and its world, comes to its end), and its rows -/
def nw_1 : Cond := Cond.methodLinkNest "EtchedPlate" 9 ⟨"EtchedPlate$Plate", "<init>", "()V"⟩ "EtchedPlate"
def nw_2 : Cond := Cond.methodLinkNest "EtchedPlate" 22 ⟨"EtchedPlate$Plan", "<init>", "()V"⟩ "EtchedPlate"
def nw_3 : Cond := Cond.methodLinkNest "EtchedPlate$Plate" 47 ⟨"EtchedPlate", "contains", "(II)Z"⟩ "EtchedPlate"
/-- the words of nest mates and of the array of plates, which are no good words -/
def nestOk (U : State) : Prop := va_Nw nw_1 U ∧ va_Nw nw_2 U ∧ va_Nw nw_3 U ∧ va_AO "EtchedPlate$Plate" U
theorem nestOk.moved {s U : State} (hW : s.WarmedH U.vm) (h : nestOk s) : nestOk U := ⟨va_Nw.warmM hW h.1, va_Nw.warmM hW h.2.1, va_Nw.warmM hW h.2.2.1, va_AO.moved hW.alike h.2.2.2⟩
theorem nestOk.calling {U : State} {g : JFrame} {mk : MethodId} {a : Array Value} (h : nestOk U) : nestOk (U.calling g mk a) := ⟨va_Nw.same (u := U) rfl rfl h.1, va_Nw.same (u := U) rfl rfl h.2.1, va_Nw.same (u := U) rfl rfl h.2.2.1, va_AO.moved (u := U) (Vm.Alike.refl U.vm) h.2.2.2⟩
abbrev tysE (cI cR : ClassId) : List (ClassId × FieldType) := [(cI, .int), (cR, .object "EtchedPlate$Plate")]
abbrev Cxt : Type := Program × Launch × Env × Room × State × MethodId × Array Value × List Frame × Method × Code × va_G × ClassId × ClassId × (Nat → Prop) × Nat × (State → Prop)
def Wr (G : Cxt) (k n pc : Nat) (lv : List (Nat × Value)) (st : List Value) (ws : va_W) : Prop := match G with
  | (p, l, e, R, s, m, args, below, meth, c, D, _, _, A, nL, Q) => ∀ (H : Heap) (locs : List Loc) (ls : Array Slot), va_P D vwCl ws H → va_D A ws → va_S A s.heap H locs → lv_has ls nL lv → W p l e R s m args below meth c H locs k n Q (F0 m pc ls st)
def Ok (G : Cxt) (l : Launch) (R : Room) (D : va_G) (cI cR : ClassId) (cc : ByteArray) (nL : Nat) (y : MethodName) : Prop := match G with
  | (p, l', _, R', s, m, args, _, meth, c, D', cI', cR', A, nL', _) => (l' = l ∧ R' = R ∧ D' = D ∧ cI' = cI ∧ cR' = cR ∧ nL' = nL) ∧ p.tables.exec = Jvm.exec ∧ c.code = cc ∧ (∀ w ∈ lw_g, w.before args s = true) ∧ s.vm.findClass y.cls = some m.cls ∧ va_K D vwCl (tysE cI cR) s ∧ c.maxLocals = nL ∧ meth.locks = false ∧ (∀ q, s.heap.size ≤ q → A q) ∧ nestOk s ∧ meth.name = y.name
/-- how a method may end: its answer and its world -/
def En (G : Cxt) (ret : Option FieldType) (Post : Option Value → va_W → Prop) (mc ms : Nat) : Prop := match G with
  | (_, _, _, _, s, _, args, below, meth, _, D, _, _, A, _, Q) => ∃ (Qc : Array Value → State → Outcome → State → Prop) (free : Addr → Prop), Q = MQ below Qc args s mc ms free ∧ meth.sig.returnType = ret ∧ (∀ q, A q → free q) ∧ ∀ (v : Option Value) (ws : va_W) (H : Heap) (locs : List Loc) (t : State), Post v ws → va_P D vwCl ws H → va_D A ws → va_S A s.heap H locs → t.heap = H → s.WarmedH t.vm → Qc args s (.returned v) t
/-- what a class of the worlds is -/
def ClsOk (Cn : String) (T : u_T) (N : Nat) (ty : Nat → FieldType) (ci : Nat) : Prop := (∀ w ∈ u_ws Cn T N, w ∈ lw_g) ∧ (∀ k, k < N → parseFieldDescriptor (T k).2.2.1 = some (ty k)) ∧ (∀ a, a < N → ∀ b, b < N → a ≠ b → (T a).2.1 ≠ (T b).2.1) ∧ vwCl[ci]? = some (Cn, T, N) ∧ ∀ k, k < N → (T k).1 = Cn
section Rows
variable {G : Cxt} {l : Launch} {R : Room} {D : va_G} {cI cR : ClassId} {cc : ByteArray} {nL : Nat} {y : MethodName} {k n pc pc2 : Nat} {lv : List (Nat × Value)} {st : List Value} {ws : va_W}
/-- locals: fewer, or in another order -/
theorem r_lv {lv2 : List (Nat × Value)} (ks : List Nat) (h : lv_pick lv ks = lv2) (kk : Wr G k n pc lv2 st ws) : Wr G k n pc lv st ws := by
  obtain ⟨p, l, e, R, s, m, args, below, meth, c, D, cI, cR, A, nL, Q⟩ := G
  intro H locs ls hP hD hS hl
  exact kk H locs ls hP hD hS (lv_sub hl ks h)
theorem r_w {ws2 : va_W} (h : ws = ws2) (kk : Wr G k n pc lv st ws2) : Wr G k n pc lv st ws := h ▸ kk
/-- the world: fewer cells, or in another order -/
theorem r_ws {ws2 : va_W} (is : List Nat) (h : is.map (fun i => ws[i]?) = ws2.map some) (hn : va_nd is = true) (kk : Wr G k n pc lv st ws2) : Wr G k n pc lv st ws := by
  obtain ⟨p, l, e, R, s, m, args, below, meth, c, D, cI, cR, A, nL, Q⟩ := G
  intro H locs ls hP hD hS hl
  refine kk H locs ls ?_ (hD.sub is hn h) hS hl
  intro j q hq
  have h1 : (is.map (fun i => ws[i]?))[j]? = some (some q) := by rw [h, List.getElem?_map, hq]; rfl
  rw [List.getElem?_map] at h1
  cases hi : is[j]? with
  | none => rw [hi] at h1; cases h1
  | some i => rw [hi] at h1; exact hP i q (Option.some.inj h1)
theorem r_widen {k2 n2 : Nat} (h1 : k ≤ k2) (h2 : n ≤ n2) (kk : Wr G k2 n2 pc lv st ws) : Wr G k n pc lv st ws := by
  obtain ⟨p, l, e, R, s, m, args, below, meth, c, D, cI, cR, A, nL, Q⟩ := G
  intro H locs ls hP hD hS hl
  exact W.widen h1 h2 (kk H locs ls hP hD hS hl)
theorem r_iconst (C : Ok G l R D cI cR cc nL y) {z : Int} {v : Int32} (hd : Dc cc pc 1 pc2 (.iconst z)) (hv : Int32.ofInt z = v) (kk : Wr G k n pc2 lv (.int v :: st) ws) : Wr G k n pc lv st ws := by
  obtain ⟨p, l, e, R, s, m, args, below, meth, c, D, cI, cR, A, nL, Q⟩ := G
  obtain ⟨⟨rfl, rfl, rfl, rfl, rfl, rfl⟩, hx, hb, hts, hown, hK, hml, hlocks, hA, hN, hmn⟩ := C
  obtain ⟨hd, rfl⟩ := hd
  intro H locs ls hP hD hS hl
  exact lv_iconst hx hb hd hv (kk H locs ls hP hD hS hl)
theorem r_bipush (C : Ok G l R D cI cR cc nL y) {z : Int} {v : Int32} (hd : Dc cc pc 2 pc2 (.bipush z)) (hv : (Int8.ofInt z).toInt32 = v) (kk : Wr G k n pc2 lv (.int v :: st) ws) : Wr G k n pc lv st ws := by
  obtain ⟨p, l, e, R, s, m, args, below, meth, c, D, cI, cR, A, nL, Q⟩ := G
  obtain ⟨⟨rfl, rfl, rfl, rfl, rfl, rfl⟩, hx, hb, hts, hown, hK, hml, hlocks, hA, hN, hmn⟩ := C
  obtain ⟨hd, rfl⟩ := hd
  intro H locs ls hP hD hS hl
  exact lv_bipush hx hb hd hv (kk H locs ls hP hD hS hl)
theorem r_sipush (C : Ok G l R D cI cR cc nL y) {z : Int} {v : Int32} (hd : Dc cc pc 3 pc2 (.sipush z)) (hv : (Int16.ofInt z).toInt32 = v) (kk : Wr G k n pc2 lv (.int v :: st) ws) : Wr G k n pc lv st ws := by
  obtain ⟨p, l, e, R, s, m, args, below, meth, c, D, cI, cR, A, nL, Q⟩ := G
  obtain ⟨⟨rfl, rfl, rfl, rfl, rfl, rfl⟩, hx, hb, hts, hown, hK, hml, hlocks, hA, hN, hmn⟩ := C
  obtain ⟨hd, rfl⟩ := hd
  intro H locs ls hP hD hS hl
  exact lv_sipush hx hb hd hv (kk H locs ls hP hD hS hl)
theorem r_ldci (C : Ok G l R D cI cR cc nL y) {index : Nat} {v : Int32} (hd : Dc cc pc 2 pc2 (.ldc index)) (hq : Cond.constant y.cls index v ∈ lw_g) (kk : Wr G k n pc2 lv (.int v :: st) ws) : Wr G k n pc lv st ws := by
  obtain ⟨p, l, e, R, s, m, args, below, meth, c, D, cI, cR, A, nL, Q⟩ := G
  obtain ⟨⟨rfl, rfl, rfl, rfl, rfl, rfl⟩, hx, hb, hts, hown, hK, hml, hlocks, hA, hN, hmn⟩ := C
  obtain ⟨hd, rfl⟩ := hd
  intro H locs ls hP hD hS hl
  exact lv_ldc hx hb hown (hts _ hq) hd (kk H locs ls hP hD hS hl)
theorem r_ldcf (C : Ok G l R D cI cR cc nL y) {index : Nat} {v : UInt32} (hd : Dc cc pc 2 pc2 (.ldc index)) (hq : Cond.constantFloat y.cls index v ∈ lw_g) (kk : Wr G k n pc2 lv (.float v :: st) ws) : Wr G k n pc lv st ws := by
  obtain ⟨p, l, e, R, s, m, args, below, meth, c, D, cI, cR, A, nL, Q⟩ := G
  obtain ⟨⟨rfl, rfl, rfl, rfl, rfl, rfl⟩, hx, hb, hts, hown, hK, hml, hlocks, hA, hN, hmn⟩ := C
  obtain ⟨hd, rfl⟩ := hd
  intro H locs ls hP hD hS hl
  exact lv_ldcf hx hb hown (hts _ hq) hd (kk H locs ls hP hD hS hl)
theorem r_ldcw (C : Ok G l R D cI cR cc nL y) {index : Nat} {v : Int32} (hd : Dc cc pc 3 pc2 (.ldc_w index)) (hq : Cond.constant y.cls index v ∈ lw_g) (kk : Wr G k n pc2 lv (.int v :: st) ws) : Wr G k n pc lv st ws := by
  obtain ⟨p, l, e, R, s, m, args, below, meth, c, D, cI, cR, A, nL, Q⟩ := G
  obtain ⟨⟨rfl, rfl, rfl, rfl, rfl, rfl⟩, hx, hb, hts, hown, hK, hml, hlocks, hA, hN, hmn⟩ := C
  obtain ⟨hd, rfl⟩ := hd
  intro H locs ls hP hD hS hl
  exact lv_ldcw hx hb hown (hts _ hq) hd (kk H locs ls hP hD hS hl)
theorem r_ldc2 (C : Ok G l R D cI cR cc nL y) {index : Nat} {v : Int64} (hd : Dc cc pc 3 pc2 (.ldc2_w index)) (hq : Cond.constantLong y.cls index v ∈ lw_g) (kk : Wr G k n pc2 lv (.long v :: st) ws) : Wr G k n pc lv st ws := by
  obtain ⟨p, l, e, R, s, m, args, below, meth, c, D, cI, cR, A, nL, Q⟩ := G
  obtain ⟨⟨rfl, rfl, rfl, rfl, rfl, rfl⟩, hx, hb, hts, hown, hK, hml, hlocks, hA, hN, hmn⟩ := C
  obtain ⟨hd, rfl⟩ := hd
  intro H locs ls hP hD hS hl
  exact lv_ldc2 hx hb hown (hts _ hq) hd (kk H locs ls hP hD hS hl)
theorem r_iload_n (C : Ok G l R D cI cR cc nL y) {i : Fin 4} {x : Int32} (hd : Dc cc pc 1 pc2 (.iload_n i)) (j : Nat) (hl : lv[j]? = some ((i : Nat), .int x)) (kk : Wr G k n pc2 lv (.int x :: st) ws) : Wr G k n pc lv st ws := by
  obtain ⟨p, l, e, R, s, m, args, below, meth, c, D, cI, cR, A, nL, Q⟩ := G
  obtain ⟨⟨rfl, rfl, rfl, rfl, rfl, rfl⟩, hx, hb, hts, hown, hK, hml, hlocks, hA, hN, hmn⟩ := C
  obtain ⟨hd, rfl⟩ := hd
  intro H locs ls hP hD hS hlv
  exact lv_iload_n hx hb hd rfl (lv_at hlv j hl) (kk H locs ls hP hD hS hlv)
theorem r_iload (C : Ok G l R D cI cR cc nL y) {i : Nat} {x : Int32} (hd : Dc cc pc 2 pc2 (.iload i)) (j : Nat) (hl : lv[j]? = some (i, .int x)) (kk : Wr G k n pc2 lv (.int x :: st) ws) : Wr G k n pc lv st ws := by
  obtain ⟨p, l, e, R, s, m, args, below, meth, c, D, cI, cR, A, nL, Q⟩ := G
  obtain ⟨⟨rfl, rfl, rfl, rfl, rfl, rfl⟩, hx, hb, hts, hown, hK, hml, hlocks, hA, hN, hmn⟩ := C
  obtain ⟨hd, rfl⟩ := hd
  intro H locs ls hP hD hS hlv
  exact lv_iload hx hb hd (lv_at hlv j hl) (kk H locs ls hP hD hS hlv)
theorem r_lload_n (C : Ok G l R D cI cR cc nL y) {i : Fin 4} {x : Int64} (hd : Dc cc pc 1 pc2 (.lload_n i)) (j : Nat) (hl : lv[j]? = some ((i : Nat), .long x)) (kk : Wr G k n pc2 lv (.long x :: st) ws) : Wr G k n pc lv st ws := by
  obtain ⟨p, l, e, R, s, m, args, below, meth, c, D, cI, cR, A, nL, Q⟩ := G
  obtain ⟨⟨rfl, rfl, rfl, rfl, rfl, rfl⟩, hx, hb, hts, hown, hK, hml, hlocks, hA, hN, hmn⟩ := C
  obtain ⟨hd, rfl⟩ := hd
  intro H locs ls hP hD hS hlv
  exact lv_lload_n hx hb hd rfl (lv_at hlv j hl) (kk H locs ls hP hD hS hlv)
theorem r_fload_n (C : Ok G l R D cI cR cc nL y) {i : Fin 4} {x : UInt32} (hd : Dc cc pc 1 pc2 (.fload_n i)) (j : Nat) (hl : lv[j]? = some ((i : Nat), .float x)) (kk : Wr G k n pc2 lv (.float x :: st) ws) : Wr G k n pc lv st ws := by
  obtain ⟨p, l, e, R, s, m, args, below, meth, c, D, cI, cR, A, nL, Q⟩ := G
  obtain ⟨⟨rfl, rfl, rfl, rfl, rfl, rfl⟩, hx, hb, hts, hown, hK, hml, hlocks, hA, hN, hmn⟩ := C
  obtain ⟨hd, rfl⟩ := hd
  intro H locs ls hP hD hS hlv
  exact lv_fload_n hx hb hd rfl (lv_at hlv j hl) (kk H locs ls hP hD hS hlv)
theorem r_aload_n (C : Ok G l R D cI cR cc nL y) {i : Fin 4} {x : Nat} (hd : Dc cc pc 1 pc2 (.aload_n i)) (j : Nat) (hl : lv[j]? = some ((i : Nat), .ref x)) (kk : Wr G k n pc2 lv (.ref x :: st) ws) : Wr G k n pc lv st ws := by
  obtain ⟨p, l, e, R, s, m, args, below, meth, c, D, cI, cR, A, nL, Q⟩ := G
  obtain ⟨⟨rfl, rfl, rfl, rfl, rfl, rfl⟩, hx, hb, hts, hown, hK, hml, hlocks, hA, hN, hmn⟩ := C
  obtain ⟨hd, rfl⟩ := hd
  intro H locs ls hP hD hS hlv
  exact lv_aload_n hx hb hd rfl (lv_at hlv j hl) (kk H locs ls hP hD hS hlv)
theorem r_istore_n (C : Ok G l R D cI cR cc nL y) {i : Fin 4} {x : Int32} {lv2 : List (Nat × Value)} (hd : Dc cc pc 1 pc2 (.istore_n i)) (hn : (i : Nat) < nL) (hl : ((i : Nat), Value.int x) :: lv.filter (fun q => !(q.1 == (i : Nat)) && !(q.1 + 1 == (i : Nat) && q.2.category == 2)) = lv2) (kk : Wr G k n pc2 lv2 st ws) : Wr G k n pc lv (.int x :: st) ws := by
  obtain ⟨p, l, e, R, s, m, args, below, meth, c, D, cI, cR, A, nL, Q⟩ := G
  obtain ⟨⟨rfl, rfl, rfl, rfl, rfl, rfl⟩, hx, hb, hts, hown, hK, hml, hlocks, hA, hN, hmn⟩ := C
  obtain ⟨hd, rfl⟩ := hd
  intro H locs ls hP hD hS hlv
  exact lv_istore_n hx hb hd rfl hlv hn hl (fun ls hlv => kk H locs ls hP hD hS hlv)
theorem r_istore (C : Ok G l R D cI cR cc nL y) {i : Nat} {x : Int32} {lv2 : List (Nat × Value)} (hd : Dc cc pc 2 pc2 (.istore i)) (hn : i < nL) (hl : (i, Value.int x) :: lv.filter (fun q => !(q.1 == i) && !(q.1 + 1 == i && q.2.category == 2)) = lv2) (kk : Wr G k n pc2 lv2 st ws) : Wr G k n pc lv (.int x :: st) ws := by
  obtain ⟨p, l, e, R, s, m, args, below, meth, c, D, cI, cR, A, nL, Q⟩ := G
  obtain ⟨⟨rfl, rfl, rfl, rfl, rfl, rfl⟩, hx, hb, hts, hown, hK, hml, hlocks, hA, hN, hmn⟩ := C
  obtain ⟨hd, rfl⟩ := hd
  intro H locs ls hP hD hS hlv
  exact lv_istore hx hb hd hlv hn hl (fun ls hlv => kk H locs ls hP hD hS hlv)
theorem r_lstore_n (C : Ok G l R D cI cR cc nL y) {i : Fin 4} {x : Int64} {lv2 : List (Nat × Value)} (hd : Dc cc pc 1 pc2 (.lstore_n i)) (hn : (i : Nat) + 1 < nL) (hl : ((i : Nat), Value.long x) :: lv.filter (fun q => !(q.1 == (i : Nat)) && (!(q.1 == (i : Nat) + 1) && !(q.1 + 1 == (i : Nat) && q.2.category == 2))) = lv2) (kk : Wr G k n pc2 lv2 st ws) : Wr G k n pc lv (.long x :: st) ws := by
  obtain ⟨p, l, e, R, s, m, args, below, meth, c, D, cI, cR, A, nL, Q⟩ := G
  obtain ⟨⟨rfl, rfl, rfl, rfl, rfl, rfl⟩, hx, hb, hts, hown, hK, hml, hlocks, hA, hN, hmn⟩ := C
  obtain ⟨hd, rfl⟩ := hd
  intro H locs ls hP hD hS hlv
  exact lv_lstore_n hx hb hd rfl hlv hn hl (fun ls hlv => kk H locs ls hP hD hS hlv)
theorem r_fstore_n (C : Ok G l R D cI cR cc nL y) {i : Fin 4} {x : UInt32} {lv2 : List (Nat × Value)} (hd : Dc cc pc 1 pc2 (.fstore_n i)) (hn : (i : Nat) < nL) (hl : ((i : Nat), Value.float x) :: lv.filter (fun q => !(q.1 == (i : Nat)) && !(q.1 + 1 == (i : Nat) && q.2.category == 2)) = lv2) (kk : Wr G k n pc2 lv2 st ws) : Wr G k n pc lv (.float x :: st) ws := by
  obtain ⟨p, l, e, R, s, m, args, below, meth, c, D, cI, cR, A, nL, Q⟩ := G
  obtain ⟨⟨rfl, rfl, rfl, rfl, rfl, rfl⟩, hx, hb, hts, hown, hK, hml, hlocks, hA, hN, hmn⟩ := C
  obtain ⟨hd, rfl⟩ := hd
  intro H locs ls hP hD hS hlv
  exact lv_fstore_n hx hb hd rfl hlv hn hl (fun ls hlv => kk H locs ls hP hD hS hlv)
theorem r_astore_n (C : Ok G l R D cI cR cc nL y) {i : Fin 4} {x : Nat} {lv2 : List (Nat × Value)} (hd : Dc cc pc 1 pc2 (.astore_n i)) (hn : (i : Nat) < nL) (hl : ((i : Nat), Value.ref x) :: lv.filter (fun q => !(q.1 == (i : Nat)) && !(q.1 + 1 == (i : Nat) && q.2.category == 2)) = lv2) (kk : Wr G k n pc2 lv2 st ws) : Wr G k n pc lv (.ref x :: st) ws := by
  obtain ⟨p, l, e, R, s, m, args, below, meth, c, D, cI, cR, A, nL, Q⟩ := G
  obtain ⟨⟨rfl, rfl, rfl, rfl, rfl, rfl⟩, hx, hb, hts, hown, hK, hml, hlocks, hA, hN, hmn⟩ := C
  obtain ⟨hd, rfl⟩ := hd
  intro H locs ls hP hD hS hlv
  exact lv_astore_n hx hb hd rfl hlv hn hl (fun ls hlv => kk H locs ls hP hD hS hlv)
theorem r_iinc (C : Ok G l R D cI cR cc nL y) {i : Nat} {z : Int} {x v : Int32} {lv2 : List (Nat × Value)} (hd : Dc cc pc 3 pc2 (.iinc i z)) (j : Nat) (hj : lv[j]? = some (i, .int x)) (hv : x + Int32.ofInt z = v) (hn : i < nL) (hl : (i, Value.int v) :: lv.filter (fun q => !(q.1 == i) && !(q.1 + 1 == i && q.2.category == 2)) = lv2) (kk : Wr G k n pc2 lv2 st ws) : Wr G k n pc lv st ws := by
  obtain ⟨p, l, e, R, s, m, args, below, meth, c, D, cI, cR, A, nL, Q⟩ := G
  obtain ⟨⟨rfl, rfl, rfl, rfl, rfl, rfl⟩, hx, hb, hts, hown, hK, hml, hlocks, hA, hN, hmn⟩ := C
  obtain ⟨hd, rfl⟩ := hd
  intro H locs ls hP hD hS hlv
  exact lv_iinc hx hb hd hlv hj hv hn hl (fun ls hlv => kk H locs ls hP hD hS hlv)
theorem r_iadd (C : Ok G l R D cI cR cc nL y) {x y0 : Int32} (hd : Dc cc pc 1 pc2 .iadd) (kk : Wr G k n pc2 lv (.int (x + y0) :: st) ws) : Wr G k n pc lv (.int y0 :: .int x :: st) ws := by
  obtain ⟨p, l, e, R, s, m, args, below, meth, c, D, cI, cR, A, nL, Q⟩ := G
  obtain ⟨⟨rfl, rfl, rfl, rfl, rfl, rfl⟩, hx, hb, hts, hown, hK, hml, hlocks, hA, hN, hmn⟩ := C
  obtain ⟨hd, rfl⟩ := hd
  intro H locs ls hP hD hS hl
  exact lv_iadd hx hb hd (kk H locs ls hP hD hS hl)
theorem r_isub (C : Ok G l R D cI cR cc nL y) {x y0 : Int32} (hd : Dc cc pc 1 pc2 .isub) (kk : Wr G k n pc2 lv (.int (x - y0) :: st) ws) : Wr G k n pc lv (.int y0 :: .int x :: st) ws := by
  obtain ⟨p, l, e, R, s, m, args, below, meth, c, D, cI, cR, A, nL, Q⟩ := G
  obtain ⟨⟨rfl, rfl, rfl, rfl, rfl, rfl⟩, hx, hb, hts, hown, hK, hml, hlocks, hA, hN, hmn⟩ := C
  obtain ⟨hd, rfl⟩ := hd
  intro H locs ls hP hD hS hl
  exact lv_isub hx hb hd (kk H locs ls hP hD hS hl)
theorem r_imul (C : Ok G l R D cI cR cc nL y) {x y0 : Int32} (hd : Dc cc pc 1 pc2 .imul) (kk : Wr G k n pc2 lv (.int (x * y0) :: st) ws) : Wr G k n pc lv (.int y0 :: .int x :: st) ws := by
  obtain ⟨p, l, e, R, s, m, args, below, meth, c, D, cI, cR, A, nL, Q⟩ := G
  obtain ⟨⟨rfl, rfl, rfl, rfl, rfl, rfl⟩, hx, hb, hts, hown, hK, hml, hlocks, hA, hN, hmn⟩ := C
  obtain ⟨hd, rfl⟩ := hd
  intro H locs ls hP hD hS hl
  exact lv_imul hx hb hd (kk H locs ls hP hD hS hl)
theorem r_iand (C : Ok G l R D cI cR cc nL y) {x y0 : Int32} (hd : Dc cc pc 1 pc2 .iand) (kk : Wr G k n pc2 lv (.int (x &&& y0) :: st) ws) : Wr G k n pc lv (.int y0 :: .int x :: st) ws := by
  obtain ⟨p, l, e, R, s, m, args, below, meth, c, D, cI, cR, A, nL, Q⟩ := G
  obtain ⟨⟨rfl, rfl, rfl, rfl, rfl, rfl⟩, hx, hb, hts, hown, hK, hml, hlocks, hA, hN, hmn⟩ := C
  obtain ⟨hd, rfl⟩ := hd
  intro H locs ls hP hD hS hl
  exact lv_iand hx hb hd (kk H locs ls hP hD hS hl)
theorem r_ior (C : Ok G l R D cI cR cc nL y) {x y0 : Int32} (hd : Dc cc pc 1 pc2 .ior) (kk : Wr G k n pc2 lv (.int (x ||| y0) :: st) ws) : Wr G k n pc lv (.int y0 :: .int x :: st) ws := by
  obtain ⟨p, l, e, R, s, m, args, below, meth, c, D, cI, cR, A, nL, Q⟩ := G
  obtain ⟨⟨rfl, rfl, rfl, rfl, rfl, rfl⟩, hx, hb, hts, hown, hK, hml, hlocks, hA, hN, hmn⟩ := C
  obtain ⟨hd, rfl⟩ := hd
  intro H locs ls hP hD hS hl
  exact lv_ior hx hb hd (kk H locs ls hP hD hS hl)
theorem r_ixor (C : Ok G l R D cI cR cc nL y) {x y0 : Int32} (hd : Dc cc pc 1 pc2 .ixor) (kk : Wr G k n pc2 lv (.int (x ^^^ y0) :: st) ws) : Wr G k n pc lv (.int y0 :: .int x :: st) ws := by
  obtain ⟨p, l, e, R, s, m, args, below, meth, c, D, cI, cR, A, nL, Q⟩ := G
  obtain ⟨⟨rfl, rfl, rfl, rfl, rfl, rfl⟩, hx, hb, hts, hown, hK, hml, hlocks, hA, hN, hmn⟩ := C
  obtain ⟨hd, rfl⟩ := hd
  intro H locs ls hP hD hS hl
  exact lv_ixor hx hb hd (kk H locs ls hP hD hS hl)
theorem r_ishl (C : Ok G l R D cI cR cc nL y) {x y0 : Int32} (hd : Dc cc pc 1 pc2 .ishl) (kk : Wr G k n pc2 lv (.int (x <<< (y0 &&& 31)) :: st) ws) : Wr G k n pc lv (.int y0 :: .int x :: st) ws := by
  obtain ⟨p, l, e, R, s, m, args, below, meth, c, D, cI, cR, A, nL, Q⟩ := G
  obtain ⟨⟨rfl, rfl, rfl, rfl, rfl, rfl⟩, hx, hb, hts, hown, hK, hml, hlocks, hA, hN, hmn⟩ := C
  obtain ⟨hd, rfl⟩ := hd
  intro H locs ls hP hD hS hl
  exact lv_ishl hx hb hd (kk H locs ls hP hD hS hl)
theorem r_ishr (C : Ok G l R D cI cR cc nL y) {x y0 : Int32} (hd : Dc cc pc 1 pc2 .ishr) (kk : Wr G k n pc2 lv (.int (x >>> (y0 &&& 31)) :: st) ws) : Wr G k n pc lv (.int y0 :: .int x :: st) ws := by
  obtain ⟨p, l, e, R, s, m, args, below, meth, c, D, cI, cR, A, nL, Q⟩ := G
  obtain ⟨⟨rfl, rfl, rfl, rfl, rfl, rfl⟩, hx, hb, hts, hown, hK, hml, hlocks, hA, hN, hmn⟩ := C
  obtain ⟨hd, rfl⟩ := hd
  intro H locs ls hP hD hS hl
  exact lv_ishr hx hb hd (kk H locs ls hP hD hS hl)
theorem r_iushr (C : Ok G l R D cI cR cc nL y) {x y0 v : Int32} (hd : Dc cc pc 1 pc2 .iushr) (hv : (x.toUInt32 >>> (y0.toUInt32 &&& Int32.toUInt32 31)).toInt32 = v) (kk : Wr G k n pc2 lv (.int v :: st) ws) : Wr G k n pc lv (.int y0 :: .int x :: st) ws := by
  obtain ⟨p, l, e, R, s, m, args, below, meth, c, D, cI, cR, A, nL, Q⟩ := G
  obtain ⟨⟨rfl, rfl, rfl, rfl, rfl, rfl⟩, hx, hb, hts, hown, hK, hml, hlocks, hA, hN, hmn⟩ := C
  obtain ⟨hd, rfl⟩ := hd
  intro H locs ls hP hD hS hl
  exact lv_iushr hx hb hd hv (kk H locs ls hP hD hS hl)
theorem r_idiv (C : Ok G l R D cI cR cc nL y) {x y0 : Int32} (hd : Dc cc pc 1 pc2 .idiv) (hne : ¬ y0 = 0) (kk : Wr G k n pc2 lv (.int (x / y0) :: st) ws) : Wr G k n pc lv (.int y0 :: .int x :: st) ws := by
  obtain ⟨p, l, e, R, s, m, args, below, meth, c, D, cI, cR, A, nL, Q⟩ := G
  obtain ⟨⟨rfl, rfl, rfl, rfl, rfl, rfl⟩, hx, hb, hts, hown, hK, hml, hlocks, hA, hN, hmn⟩ := C
  obtain ⟨hd, rfl⟩ := hd
  intro H locs ls hP hD hS hl
  exact lv_idiv hx hb hd hne (kk H locs ls hP hD hS hl)
theorem r_irem (C : Ok G l R D cI cR cc nL y) {x y0 : Int32} (hd : Dc cc pc 1 pc2 .irem) (hne : ¬ y0 = 0) (kk : Wr G k n pc2 lv (.int (x - x / y0 * y0) :: st) ws) : Wr G k n pc lv (.int y0 :: .int x :: st) ws := by
  obtain ⟨p, l, e, R, s, m, args, below, meth, c, D, cI, cR, A, nL, Q⟩ := G
  obtain ⟨⟨rfl, rfl, rfl, rfl, rfl, rfl⟩, hx, hb, hts, hown, hK, hml, hlocks, hA, hN, hmn⟩ := C
  obtain ⟨hd, rfl⟩ := hd
  intro H locs ls hP hD hS hl
  exact lv_irem hx hb hd hne (kk H locs ls hP hD hS hl)
theorem r_ineg (C : Ok G l R D cI cR cc nL y) {x : Int32} (hd : Dc cc pc 1 pc2 .ineg) (kk : Wr G k n pc2 lv (.int (-x) :: st) ws) : Wr G k n pc lv (.int x :: st) ws := by
  obtain ⟨p, l, e, R, s, m, args, below, meth, c, D, cI, cR, A, nL, Q⟩ := G
  obtain ⟨⟨rfl, rfl, rfl, rfl, rfl, rfl⟩, hx, hb, hts, hown, hK, hml, hlocks, hA, hN, hmn⟩ := C
  obtain ⟨hd, rfl⟩ := hd
  intro H locs ls hP hD hS hl
  exact lv_ineg hx hb hd (kk H locs ls hP hD hS hl)
theorem r_ladd (C : Ok G l R D cI cR cc nL y) {x y0 : Int64} (hd : Dc cc pc 1 pc2 .ladd) (kk : Wr G k n pc2 lv (.long (x + y0) :: st) ws) : Wr G k n pc lv (.long y0 :: .long x :: st) ws := by
  obtain ⟨p, l, e, R, s, m, args, below, meth, c, D, cI, cR, A, nL, Q⟩ := G
  obtain ⟨⟨rfl, rfl, rfl, rfl, rfl, rfl⟩, hx, hb, hts, hown, hK, hml, hlocks, hA, hN, hmn⟩ := C
  obtain ⟨hd, rfl⟩ := hd
  intro H locs ls hP hD hS hl
  exact lv_ladd hx hb hd (kk H locs ls hP hD hS hl)
theorem r_lmul (C : Ok G l R D cI cR cc nL y) {x y0 : Int64} (hd : Dc cc pc 1 pc2 .lmul) (kk : Wr G k n pc2 lv (.long (x * y0) :: st) ws) : Wr G k n pc lv (.long y0 :: .long x :: st) ws := by
  obtain ⟨p, l, e, R, s, m, args, below, meth, c, D, cI, cR, A, nL, Q⟩ := G
  obtain ⟨⟨rfl, rfl, rfl, rfl, rfl, rfl⟩, hx, hb, hts, hown, hK, hml, hlocks, hA, hN, hmn⟩ := C
  obtain ⟨hd, rfl⟩ := hd
  intro H locs ls hP hD hS hl
  exact lv_lmul hx hb hd (kk H locs ls hP hD hS hl)
theorem r_lcmp (C : Ok G l R D cI cR cc nL y) {x y0 : Int64} (hd : Dc cc pc 1 pc2 .lcmp) (kk : Wr G k n pc2 lv (.int (lg_cmp x y0) :: st) ws) : Wr G k n pc lv (.long y0 :: .long x :: st) ws := by
  obtain ⟨p, l, e, R, s, m, args, below, meth, c, D, cI, cR, A, nL, Q⟩ := G
  obtain ⟨⟨rfl, rfl, rfl, rfl, rfl, rfl⟩, hx, hb, hts, hown, hK, hml, hlocks, hA, hN, hmn⟩ := C
  obtain ⟨hd, rfl⟩ := hd
  intro H locs ls hP hD hS hl
  exact W.lcmp hx hb hd (kk H locs ls hP hD hS hl)
theorem r_i2l (C : Ok G l R D cI cR cc nL y) {x : Int32} (hd : Dc cc pc 1 pc2 .i2l) (kk : Wr G k n pc2 lv (.long x.toInt64 :: st) ws) : Wr G k n pc lv (.int x :: st) ws := by
  obtain ⟨p, l, e, R, s, m, args, below, meth, c, D, cI, cR, A, nL, Q⟩ := G
  obtain ⟨⟨rfl, rfl, rfl, rfl, rfl, rfl⟩, hx, hb, hts, hown, hK, hml, hlocks, hA, hN, hmn⟩ := C
  obtain ⟨hd, rfl⟩ := hd
  intro H locs ls hP hD hS hl
  exact lv_i2l hx hb hd rfl (kk H locs ls hP hD hS hl)
theorem r_i2f (C : Ok G l R D cI cR cc nL y) {x : Int32} (hd : Dc cc pc 1 pc2 .i2f) (kk : Wr G k n pc2 lv (.float (FP.i2f x) :: st) ws) : Wr G k n pc lv (.int x :: st) ws := by
  obtain ⟨p, l, e, R, s, m, args, below, meth, c, D, cI, cR, A, nL, Q⟩ := G
  obtain ⟨⟨rfl, rfl, rfl, rfl, rfl, rfl⟩, hx, hb, hts, hown, hK, hml, hlocks, hA, hN, hmn⟩ := C
  obtain ⟨hd, rfl⟩ := hd
  intro H locs ls hP hD hS hl
  exact lv_i2f hx hb hd (kk H locs ls hP hD hS hl)
theorem r_f2i (C : Ok G l R D cI cR cc nL y) {x : UInt32} (hd : Dc cc pc 1 pc2 .f2i) (kk : Wr G k n pc2 lv (.int (FP.f2i x) :: st) ws) : Wr G k n pc lv (.float x :: st) ws := by
  obtain ⟨p, l, e, R, s, m, args, below, meth, c, D, cI, cR, A, nL, Q⟩ := G
  obtain ⟨⟨rfl, rfl, rfl, rfl, rfl, rfl⟩, hx, hb, hts, hown, hK, hml, hlocks, hA, hN, hmn⟩ := C
  obtain ⟨hd, rfl⟩ := hd
  intro H locs ls hP hD hS hl
  exact lv_f2i hx hb hd (kk H locs ls hP hD hS hl)
theorem r_fdiv (C : Ok G l R D cI cR cc nL y) {x y0 : UInt32} (hd : Dc cc pc 1 pc2 .fdiv) (hne : vf_n32 (FP.fdiv x y0)) (kk : Wr G k n pc2 lv (.float (FP.fdiv x y0) :: st) ws) : Wr G k n pc lv (.float y0 :: .float x :: st) ws := by
  obtain ⟨p, l, e, R, s, m, args, below, meth, c, D, cI, cR, A, nL, Q⟩ := G
  obtain ⟨⟨rfl, rfl, rfl, rfl, rfl, rfl⟩, hx, hb, hts, hown, hK, hml, hlocks, hA, hN, hmn⟩ := C
  obtain ⟨hd, rfl⟩ := hd
  intro H locs ls hP hD hS hl
  exact lv_fdiv hx hb hd hne (kk H locs ls hP hD hS hl)
theorem r_fmul (C : Ok G l R D cI cR cc nL y) {x y0 : UInt32} (hd : Dc cc pc 1 pc2 .fmul) (hne : vf_n32 (FP.fmul x y0)) (kk : Wr G k n pc2 lv (.float (FP.fmul x y0) :: st) ws) : Wr G k n pc lv (.float y0 :: .float x :: st) ws := by
  obtain ⟨p, l, e, R, s, m, args, below, meth, c, D, cI, cR, A, nL, Q⟩ := G
  obtain ⟨⟨rfl, rfl, rfl, rfl, rfl, rfl⟩, hx, hb, hts, hown, hK, hml, hlocks, hA, hN, hmn⟩ := C
  obtain ⟨hd, rfl⟩ := hd
  intro H locs ls hP hD hS hl
  exact lv_fmul hx hb hd hne (kk H locs ls hP hD hS hl)
theorem r_fsub (C : Ok G l R D cI cR cc nL y) {x y0 : UInt32} (hd : Dc cc pc 1 pc2 .fsub) (hne : vf_n32 (FP.fsub x y0)) (kk : Wr G k n pc2 lv (.float (FP.fsub x y0) :: st) ws) : Wr G k n pc lv (.float y0 :: .float x :: st) ws := by
  obtain ⟨p, l, e, R, s, m, args, below, meth, c, D, cI, cR, A, nL, Q⟩ := G
  obtain ⟨⟨rfl, rfl, rfl, rfl, rfl, rfl⟩, hx, hb, hts, hown, hK, hml, hlocks, hA, hN, hmn⟩ := C
  obtain ⟨hd, rfl⟩ := hd
  intro H locs ls hP hD hS hl
  exact lv_fsub hx hb hd hne (kk H locs ls hP hD hS hl)
theorem r_fcmp (C : Ok G l R D cI cR cc nL y) {x y0 : UInt32} {op : CmpOp} (hd : Dc cc pc 1 pc2 (.fcmp op)) (kk : Wr G k n pc2 lv (.int (Op.cmpValue (FP.fcmp x y0) op) :: st) ws) : Wr G k n pc lv (.float y0 :: .float x :: st) ws := by
  obtain ⟨p, l, e, R, s, m, args, below, meth, c, D, cI, cR, A, nL, Q⟩ := G
  obtain ⟨⟨rfl, rfl, rfl, rfl, rfl, rfl⟩, hx, hb, hts, hown, hK, hml, hlocks, hA, hN, hmn⟩ := C
  obtain ⟨hd, rfl⟩ := hd
  intro H locs ls hP hD hS hl
  exact lv_fcmp hx hb hd (kk H locs ls hP hD hS hl)
theorem r_fconst0 (C : Ok G l R D cI cR cc nL y) (hd : Dc cc pc 1 pc2 (.fconst 0)) (kk : Wr G k n pc2 lv (.float FP.fconst0 :: st) ws) : Wr G k n pc lv st ws := by
  obtain ⟨p, l, e, R, s, m, args, below, meth, c, D, cI, cR, A, nL, Q⟩ := G
  obtain ⟨⟨rfl, rfl, rfl, rfl, rfl, rfl⟩, hx, hb, hts, hown, hK, hml, hlocks, hA, hN, hmn⟩ := C
  obtain ⟨hd, rfl⟩ := hd
  intro H locs ls hP hD hS hl
  exact lv_fconst0 hx hb hd (kk H locs ls hP hD hS hl)
theorem r_fconst1 (C : Ok G l R D cI cR cc nL y) (hd : Dc cc pc 1 pc2 (.fconst 1)) (kk : Wr G k n pc2 lv (.float FP.fconst1 :: st) ws) : Wr G k n pc lv st ws := by
  obtain ⟨p, l, e, R, s, m, args, below, meth, c, D, cI, cR, A, nL, Q⟩ := G
  obtain ⟨⟨rfl, rfl, rfl, rfl, rfl, rfl⟩, hx, hb, hts, hown, hK, hml, hlocks, hA, hN, hmn⟩ := C
  obtain ⟨hd, rfl⟩ := hd
  intro H locs ls hP hD hS hl
  exact lv_fconst1 hx hb hd (kk H locs ls hP hD hS hl)
theorem r_fconst2 (C : Ok G l R D cI cR cc nL y) (hd : Dc cc pc 1 pc2 (.fconst 2)) (kk : Wr G k n pc2 lv (.float FP.fconst2 :: st) ws) : Wr G k n pc lv st ws := by
  obtain ⟨p, l, e, R, s, m, args, below, meth, c, D, cI, cR, A, nL, Q⟩ := G
  obtain ⟨⟨rfl, rfl, rfl, rfl, rfl, rfl⟩, hx, hb, hts, hown, hK, hml, hlocks, hA, hN, hmn⟩ := C
  obtain ⟨hd, rfl⟩ := hd
  intro H locs ls hP hD hS hl
  exact lv_fconst2 hx hb hd (kk H locs ls hP hD hS hl)
theorem r_dup (C : Ok G l R D cI cR cc nL y) {v : Value} (hd : Dc cc pc 1 pc2 .dup) (hv : v.category = 1) (kk : Wr G k n pc2 lv (v :: v :: st) ws) : Wr G k n pc lv (v :: st) ws := by
  obtain ⟨p, l, e, R, s, m, args, below, meth, c, D, cI, cR, A, nL, Q⟩ := G
  obtain ⟨⟨rfl, rfl, rfl, rfl, rfl, rfl⟩, hx, hb, hts, hown, hK, hml, hlocks, hA, hN, hmn⟩ := C
  obtain ⟨hd, rfl⟩ := hd
  intro H locs ls hP hD hS hl
  exact lv_dup hx hb hd hv (kk H locs ls hP hD hS hl)
theorem r_dup2 (C : Ok G l R D cI cR cc nL y) {v u : Value} (hd : Dc cc pc 1 pc2 .dup2) (hv : v.category = 1) (hu : u.category = 1) (kk : Wr G k n pc2 lv (v :: u :: v :: u :: st) ws) : Wr G k n pc lv (v :: u :: st) ws := by
  obtain ⟨p, l, e, R, s, m, args, below, meth, c, D, cI, cR, A, nL, Q⟩ := G
  obtain ⟨⟨rfl, rfl, rfl, rfl, rfl, rfl⟩, hx, hb, hts, hown, hK, hml, hlocks, hA, hN, hmn⟩ := C
  obtain ⟨hd, rfl⟩ := hd
  intro H locs ls hP hD hS hl
  exact lv_dup2_11 hx hb hd hv hu (kk H locs ls hP hD hS hl)
theorem r_goto (C : Ok G l R D cI cR cc nL y) {off : Int} {tgt : Nat} (hd : Dc cc pc 3 pc2 (.goto off)) (ht : (pc : Int) + off = (tgt : Int)) (kk : Wr G k n tgt lv st ws) : Wr G k n pc lv st ws := by
  obtain ⟨p, l, e, R, s, m, args, below, meth, c, D, cI, cR, A, nL, Q⟩ := G
  obtain ⟨⟨rfl, rfl, rfl, rfl, rfl, rfl⟩, hx, hb, hts, hown, hK, hml, hlocks, hA, hN, hmn⟩ := C
  obtain ⟨hd, rfl⟩ := hd
  intro H locs ls hP hD hS hl
  exact lv_goto hx hb hd ht (kk H locs ls hP hD hS hl)
theorem r_if_eq (C : Ok G l R D cI cR cc nL y) {x : Int32} {off : Int} {tgt : Nat} (hd : Dc cc pc 3 pc2 (.ifCond .eq off)) (ht : (pc : Int) + off = (tgt : Int)) (kt : x = 0 → Wr G k n tgt lv st ws) (kf : ¬ x = 0 → Wr G k n pc2 lv st ws) : Wr G k n pc lv (.int x :: st) ws := by
  obtain ⟨p, l, e, R, s, m, args, below, meth, c, D, cI, cR, A, nL, Q⟩ := G
  obtain ⟨⟨rfl, rfl, rfl, rfl, rfl, rfl⟩, hx, hb, hts, hown, hK, hml, hlocks, hA, hN, hmn⟩ := C
  obtain ⟨hd, rfl⟩ := hd
  intro H locs ls hP hD hS hl
  exact lv_if_eq hx hb hd ht (fun h => kt h H locs ls hP hD hS hl) (fun h => kf h H locs ls hP hD hS hl)
theorem r_if_ne (C : Ok G l R D cI cR cc nL y) {x : Int32} {off : Int} {tgt : Nat} (hd : Dc cc pc 3 pc2 (.ifCond .ne off)) (ht : (pc : Int) + off = (tgt : Int)) (kt : ¬ x = 0 → Wr G k n tgt lv st ws) (kf : x = 0 → Wr G k n pc2 lv st ws) : Wr G k n pc lv (.int x :: st) ws := by
  obtain ⟨p, l, e, R, s, m, args, below, meth, c, D, cI, cR, A, nL, Q⟩ := G
  obtain ⟨⟨rfl, rfl, rfl, rfl, rfl, rfl⟩, hx, hb, hts, hown, hK, hml, hlocks, hA, hN, hmn⟩ := C
  obtain ⟨hd, rfl⟩ := hd
  intro H locs ls hP hD hS hl
  exact lv_if_ne hx hb hd ht (fun h => kt h H locs ls hP hD hS hl) (fun h => kf h H locs ls hP hD hS hl)
theorem r_if_lt (C : Ok G l R D cI cR cc nL y) {x : Int32} {off : Int} {tgt : Nat} (hd : Dc cc pc 3 pc2 (.ifCond .lt off)) (ht : (pc : Int) + off = (tgt : Int)) (kt : x < 0 → Wr G k n tgt lv st ws) (kf : ¬ x < 0 → Wr G k n pc2 lv st ws) : Wr G k n pc lv (.int x :: st) ws := by
  obtain ⟨p, l, e, R, s, m, args, below, meth, c, D, cI, cR, A, nL, Q⟩ := G
  obtain ⟨⟨rfl, rfl, rfl, rfl, rfl, rfl⟩, hx, hb, hts, hown, hK, hml, hlocks, hA, hN, hmn⟩ := C
  obtain ⟨hd, rfl⟩ := hd
  intro H locs ls hP hD hS hl
  exact lv_if_lt hx hb hd ht (fun h => kt h H locs ls hP hD hS hl) (fun h => kf h H locs ls hP hD hS hl)
theorem r_if_le (C : Ok G l R D cI cR cc nL y) {x : Int32} {off : Int} {tgt : Nat} (hd : Dc cc pc 3 pc2 (.ifCond .le off)) (ht : (pc : Int) + off = (tgt : Int)) (kt : x ≤ 0 → Wr G k n tgt lv st ws) (kf : ¬ x ≤ 0 → Wr G k n pc2 lv st ws) : Wr G k n pc lv (.int x :: st) ws := by
  obtain ⟨p, l, e, R, s, m, args, below, meth, c, D, cI, cR, A, nL, Q⟩ := G
  obtain ⟨⟨rfl, rfl, rfl, rfl, rfl, rfl⟩, hx, hb, hts, hown, hK, hml, hlocks, hA, hN, hmn⟩ := C
  obtain ⟨hd, rfl⟩ := hd
  intro H locs ls hP hD hS hl
  exact lv_if_le hx hb hd ht (fun h => kt h H locs ls hP hD hS hl) (fun h => kf h H locs ls hP hD hS hl)
theorem r_if_ge (C : Ok G l R D cI cR cc nL y) {x : Int32} {off : Int} {tgt : Nat} (hd : Dc cc pc 3 pc2 (.ifCond .ge off)) (ht : (pc : Int) + off = (tgt : Int)) (kt : 0 ≤ x → Wr G k n tgt lv st ws) (kf : ¬ 0 ≤ x → Wr G k n pc2 lv st ws) : Wr G k n pc lv (.int x :: st) ws := by
  obtain ⟨p, l, e, R, s, m, args, below, meth, c, D, cI, cR, A, nL, Q⟩ := G
  obtain ⟨⟨rfl, rfl, rfl, rfl, rfl, rfl⟩, hx, hb, hts, hown, hK, hml, hlocks, hA, hN, hmn⟩ := C
  obtain ⟨hd, rfl⟩ := hd
  intro H locs ls hP hD hS hl
  exact lv_if_ge hx hb hd ht (fun h => kt h H locs ls hP hD hS hl) (fun h => kf h H locs ls hP hD hS hl)
theorem r_if_gt (C : Ok G l R D cI cR cc nL y) {x : Int32} {off : Int} {tgt : Nat} (hd : Dc cc pc 3 pc2 (.ifCond .gt off)) (ht : (pc : Int) + off = (tgt : Int)) (kt : 0 < x → Wr G k n tgt lv st ws) (kf : ¬ 0 < x → Wr G k n pc2 lv st ws) : Wr G k n pc lv (.int x :: st) ws := by
  obtain ⟨p, l, e, R, s, m, args, below, meth, c, D, cI, cR, A, nL, Q⟩ := G
  obtain ⟨⟨rfl, rfl, rfl, rfl, rfl, rfl⟩, hx, hb, hts, hown, hK, hml, hlocks, hA, hN, hmn⟩ := C
  obtain ⟨hd, rfl⟩ := hd
  intro H locs ls hP hD hS hl
  exact lv_if_gt hx hb hd ht (fun h => kt h H locs ls hP hD hS hl) (fun h => kf h H locs ls hP hD hS hl)
theorem r_icmp_eq (C : Ok G l R D cI cR cc nL y) {x y0 : Int32} {off : Int} {tgt : Nat} (hd : Dc cc pc 3 pc2 (.if_icmp .eq off)) (ht : (pc : Int) + off = (tgt : Int)) (kt : x = y0 → Wr G k n tgt lv st ws) (kf : ¬ x = y0 → Wr G k n pc2 lv st ws) : Wr G k n pc lv (.int y0 :: .int x :: st) ws := by
  obtain ⟨p, l, e, R, s, m, args, below, meth, c, D, cI, cR, A, nL, Q⟩ := G
  obtain ⟨⟨rfl, rfl, rfl, rfl, rfl, rfl⟩, hx, hb, hts, hown, hK, hml, hlocks, hA, hN, hmn⟩ := C
  obtain ⟨hd, rfl⟩ := hd
  intro H locs ls hP hD hS hl
  exact lv_icmp_eq hx hb hd ht (fun h => kt h H locs ls hP hD hS hl) (fun h => kf h H locs ls hP hD hS hl)
theorem r_icmp_ne (C : Ok G l R D cI cR cc nL y) {x y0 : Int32} {off : Int} {tgt : Nat} (hd : Dc cc pc 3 pc2 (.if_icmp .ne off)) (ht : (pc : Int) + off = (tgt : Int)) (kt : ¬ x = y0 → Wr G k n tgt lv st ws) (kf : x = y0 → Wr G k n pc2 lv st ws) : Wr G k n pc lv (.int y0 :: .int x :: st) ws := by
  obtain ⟨p, l, e, R, s, m, args, below, meth, c, D, cI, cR, A, nL, Q⟩ := G
  obtain ⟨⟨rfl, rfl, rfl, rfl, rfl, rfl⟩, hx, hb, hts, hown, hK, hml, hlocks, hA, hN, hmn⟩ := C
  obtain ⟨hd, rfl⟩ := hd
  intro H locs ls hP hD hS hl
  exact lv_icmp_ne hx hb hd ht (fun h => kt h H locs ls hP hD hS hl) (fun h => kf h H locs ls hP hD hS hl)
theorem r_icmp_lt (C : Ok G l R D cI cR cc nL y) {x y0 : Int32} {off : Int} {tgt : Nat} (hd : Dc cc pc 3 pc2 (.if_icmp .lt off)) (ht : (pc : Int) + off = (tgt : Int)) (kt : x < y0 → Wr G k n tgt lv st ws) (kf : ¬ x < y0 → Wr G k n pc2 lv st ws) : Wr G k n pc lv (.int y0 :: .int x :: st) ws := by
  obtain ⟨p, l, e, R, s, m, args, below, meth, c, D, cI, cR, A, nL, Q⟩ := G
  obtain ⟨⟨rfl, rfl, rfl, rfl, rfl, rfl⟩, hx, hb, hts, hown, hK, hml, hlocks, hA, hN, hmn⟩ := C
  obtain ⟨hd, rfl⟩ := hd
  intro H locs ls hP hD hS hl
  exact lv_icmp_lt hx hb hd ht (fun h => kt h H locs ls hP hD hS hl) (fun h => kf h H locs ls hP hD hS hl)
theorem r_icmp_le (C : Ok G l R D cI cR cc nL y) {x y0 : Int32} {off : Int} {tgt : Nat} (hd : Dc cc pc 3 pc2 (.if_icmp .le off)) (ht : (pc : Int) + off = (tgt : Int)) (kt : x ≤ y0 → Wr G k n tgt lv st ws) (kf : ¬ x ≤ y0 → Wr G k n pc2 lv st ws) : Wr G k n pc lv (.int y0 :: .int x :: st) ws := by
  obtain ⟨p, l, e, R, s, m, args, below, meth, c, D, cI, cR, A, nL, Q⟩ := G
  obtain ⟨⟨rfl, rfl, rfl, rfl, rfl, rfl⟩, hx, hb, hts, hown, hK, hml, hlocks, hA, hN, hmn⟩ := C
  obtain ⟨hd, rfl⟩ := hd
  intro H locs ls hP hD hS hl
  exact lv_icmp_le hx hb hd ht (fun h => kt h H locs ls hP hD hS hl) (fun h => kf h H locs ls hP hD hS hl)
theorem r_icmp_ge (C : Ok G l R D cI cR cc nL y) {x y0 : Int32} {off : Int} {tgt : Nat} (hd : Dc cc pc 3 pc2 (.if_icmp .ge off)) (ht : (pc : Int) + off = (tgt : Int)) (kt : y0 ≤ x → Wr G k n tgt lv st ws) (kf : ¬ y0 ≤ x → Wr G k n pc2 lv st ws) : Wr G k n pc lv (.int y0 :: .int x :: st) ws := by
  obtain ⟨p, l, e, R, s, m, args, below, meth, c, D, cI, cR, A, nL, Q⟩ := G
  obtain ⟨⟨rfl, rfl, rfl, rfl, rfl, rfl⟩, hx, hb, hts, hown, hK, hml, hlocks, hA, hN, hmn⟩ := C
  obtain ⟨hd, rfl⟩ := hd
  intro H locs ls hP hD hS hl
  exact lv_icmp_ge hx hb hd ht (fun h => kt h H locs ls hP hD hS hl) (fun h => kf h H locs ls hP hD hS hl)
theorem r_icmp_gt (C : Ok G l R D cI cR cc nL y) {x y0 : Int32} {off : Int} {tgt : Nat} (hd : Dc cc pc 3 pc2 (.if_icmp .gt off)) (ht : (pc : Int) + off = (tgt : Int)) (kt : y0 < x → Wr G k n tgt lv st ws) (kf : ¬ y0 < x → Wr G k n pc2 lv st ws) : Wr G k n pc lv (.int y0 :: .int x :: st) ws := by
  obtain ⟨p, l, e, R, s, m, args, below, meth, c, D, cI, cR, A, nL, Q⟩ := G
  obtain ⟨⟨rfl, rfl, rfl, rfl, rfl, rfl⟩, hx, hb, hts, hown, hK, hml, hlocks, hA, hN, hmn⟩ := C
  obtain ⟨hd, rfl⟩ := hd
  intro H locs ls hP hD hS hl
  exact lv_icmp_gt hx hb hd ht (fun h => kt h H locs ls hP hD hS hl) (fun h => kf h H locs ls hP hD hS hl)
end Rows
