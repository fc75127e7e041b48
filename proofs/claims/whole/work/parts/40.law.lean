/-! THE LAW: its rows over the script, its world, its loop -/
def yL (nm : String) : MethodName := ⟨"EtchedPlateLaw", nm, "([I)Z"⟩
def Scr (G : Cxt) (b L : Nat) (xs : Nat → Int32) : Prop := match G with
  | (_, _, _, _, s, _, _, _, _, _, _, _, _, A, _, _) => va_X b L xs s s.heap ∧ b < s.heap.size ∧ ¬ A b
section Rows4
variable {G : Cxt} {l : Launch} {R : Room} {D : va_G} {cI cR : ClassId} {cc : ByteArray} {nL : Nat} {y : MethodName} {k n pc pc2 : Nat} {lv : List (Nat × Value)} {st : List Value} {ws : va_W} {b L : Nat} {xs : Nat → Int32}
theorem r_sld (C : Ok G l R D cI cR cc nL y) (X : Scr G b L xs) {i : Int32} (hd : Dc cc pc 1 pc2 .iaload) (j : Nat) (hi : i = nI j) (hj : j < L) (hL : L < 2147483648) (kk : Wr G k n pc2 lv (.int (xs j) :: st) ws) : Wr G k n pc lv (.int i :: .ref b :: st) ws := by
  obtain ⟨p, l, e, R, s, m, args, below, meth, c, D, cI, cR, A, nL, Q⟩ := G
  obtain ⟨⟨rfl, rfl, rfl, rfl, rfl, rfl⟩, hx, hb, hts, hown, hK, hml, hlocks, hA, hN', hmn⟩ := C
  obtain ⟨hd, rfl⟩ := hd
  obtain ⟨x1, x2, x3⟩ := X
  subst hi
  intro H locs ls hP hD hS hl
  refine va_sld hx hb x1 x2 x3 hS (vp_in_nI hj hL) hd ?_
  rw [nI_clamp (Nat.lt_trans hj hL)]
  exact kk H locs ls hP hD hS hl
theorem r_slen (C : Ok G l R D cI cR cc nL y) (X : Scr G b L xs) (hd : Dc cc pc 1 pc2 .arraylength) (kk : Wr G k n pc2 lv (.int (nI L) :: st) ws) : Wr G k n pc lv (.ref b :: st) ws := by
  obtain ⟨p, l, e, R, s, m, args, below, meth, c, D, cI, cR, A, nL, Q⟩ := G
  obtain ⟨⟨rfl, rfl, rfl, rfl, rfl, rfl⟩, hx, hb, hts, hown, hK, hml, hlocks, hA, hN', hmn⟩ := C
  obtain ⟨hd, rfl⟩ := hd
  obtain ⟨x1, x2, x3⟩ := X
  intro H locs ls hP hD hS hl
  exact va_slen hx hb x1 x2 x3 hS hd (kk H locs ls hP hD hS hl)
theorem r_tabI (C : Ok G l R D cI cR cc nL y) {dflt lo hi : Int} {offs : Array Int} {len : Nat} {x : Int32} {off : Int} {tgt : Nat} (hd : Dc cc pc len pc2 (.tableswitch dflt lo hi offs)) (h1 : ¬ x.toInt < lo) (h2 : ¬ hi < x.toInt) (ho : offs[(x.toInt - lo).toNat]? = some off) (ht : (pc : Int) + off = (tgt : Int)) (kk : Wr G k n tgt lv st ws) : Wr G k n pc lv (.int x :: st) ws := by
  obtain ⟨p, l, e, R, s, m, args, below, meth, c, D, cI, cR, A, nL, Q⟩ := G
  obtain ⟨⟨rfl, rfl, rfl, rfl, rfl, rfl⟩, hx, hb, hts, hown, hK, hml, hlocks, hA, hN', hmn⟩ := C
  obtain ⟨hd, rfl⟩ := hd
  intro H locs ls hP hD hS hl
  exact lv_tableIn hx hb hd h1 h2 ho ht (kk H locs ls hP hD hS hl)
theorem r_tabO (C : Ok G l R D cI cR cc nL y) {dflt lo hi : Int} {offs : Array Int} {len : Nat} {x : Int32} {tgt : Nat} (hd : Dc cc pc len pc2 (.tableswitch dflt lo hi offs)) (h : x.toInt < lo ∨ hi < x.toInt) (ht : (pc : Int) + dflt = (tgt : Int)) (kk : Wr G k n tgt lv st ws) : Wr G k n pc lv (.int x :: st) ws := by
  obtain ⟨p, l, e, R, s, m, args, below, meth, c, D, cI, cR, A, nL, Q⟩ := G
  obtain ⟨⟨rfl, rfl, rfl, rfl, rfl, rfl⟩, hx, hb, hts, hown, hK, hml, hlocks, hA, hN', hmn⟩ := C
  obtain ⟨hd, rfl⟩ := hd
  intro H locs ls hP hD hS hl
  exact lv_tableOut hx hb hd h ht (kk H locs ls hP hD hS hl)
end Rows4
/-! a saved plate's cells -/
def kO (a : PAd) (p : PSt) : Nat × va_E := (a.1, .inr (1, [.ref a.2.1, .ref a.2.2.1, .ref a.2.2.2, .int (nI p.2.2.2.1), .int p.2.2.2.2.1, .int p.2.2.2.2.2.1, .int (nI p.2.2.2.2.2.2.1), .int p.2.2.2.2.2.2.2.1, .int p.2.2.2.2.2.2.2.2]))
def kA (cI : ClassId) (a : PAd) (p : PSt) : Nat × va_E := (a.2.1, .inl (cI, 10, .inl p.1))
def kB (cI : ClassId) (a : PAd) (p : PSt) : Nat × va_E := (a.2.2.1, .inl (cI, 12, .inl p.2.1))
def kC (cI : ClassId) (a : PAd) (p : PSt) : Nat × va_E := (a.2.2.2, .inl (cI, 120, .inl p.2.2.1))
def kS (cR : ClassId) (s0 : Nat) (A : Nat → PAd) : Nat × va_E := (s0, .inl (cR, 5, .inr (.inr (.inr (.inr (fun k => some (A k).1))))))
