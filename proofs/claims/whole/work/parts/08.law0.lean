section AML
variable {l : Launch} {D : va_G} {aC : Nat → ClassId} {own : String} {cc : ByteArray} {nL : Nat} {ret : Option FieldType} {ini : Bool} {tb : List (Nat × Nat × Nat × Nat)} {G : State → (Nat → Prop) → Prop} {rm : Room} {mc ms k n pc : Nat} {L : List (Nat × Value)} {st : List Value} {ws : va_W} {Q : Option Value → va_W → Prop} {X : String → va_W → Prop} {b L0 : Nat} {xs : Nat → Int32}
/-- the law's script, a cell that was there before -/
def am_GS (b L0 : Nat) (xs : Nat → Int32) : State → (Nat → Prop) → Prop := fun s A => va_X b L0 xs s s.heap ∧ b < s.heap.size ∧ ¬ A b
theorem am_sld {i : Int32} (hin : vp_in i L0) (hd : decode cc pc = .ok (.iaload, 1)) (h : am l D aC own cc nL ret ini tb (am_GS b L0 xs) rm mc ms k n (pc + 1) L (.int (xs i.toNatClampNeg) :: st) ws Q X) : am l D aC own cc nL ret ini tb (am_GS b L0 xs) rm mc ms k n pc L (.int i :: .ref b :: st) ws Q X := by
  intro p e s m args below meth c A H locs ls S hl hP hD hS
  have hG := S.2.2.2.2.2.2.2.2.2.2.2.2.2.2
  exact va_sld S.1 S.2.1 hG.1 hG.2.1 hG.2.2 hS hin hd (h p e s m args below meth c A H locs ls S hl hP hD hS)
theorem am_slen (hd : decode cc pc = .ok (.arraylength, 1)) (h : am l D aC own cc nL ret ini tb (am_GS b L0 xs) rm mc ms k n (pc + 1) L (.int (nI L0) :: st) ws Q X) : am l D aC own cc nL ret ini tb (am_GS b L0 xs) rm mc ms k n pc L (.ref b :: st) ws Q X := by
  intro p e s m args below meth c A H locs ls S hl hP hD hS
  have hG := S.2.2.2.2.2.2.2.2.2.2.2.2.2.2
  exact va_slen S.1 S.2.1 hG.1 hG.2.1 hG.2.2 hS hd (h p e s m args below meth c A H locs ls S hl hP hD hS)
theorem am_tabIn {dflt lo hi : Int} {offs : Array Int} {len : Nat} {x : Int32} {off : Int} (tgt : Nat) (hd : decode cc pc = .ok (.tableswitch dflt lo hi offs, len)) (h1 : ¬ x.toInt < lo) (h2 : ¬ hi < x.toInt) (ho : offs[(x.toInt - lo).toNat]? = some off) (ht : (pc : Int) + off = (tgt : Int)) (h : am l D aC own cc nL ret ini tb G rm mc ms k n tgt L st ws Q X) : am l D aC own cc nL ret ini tb G rm mc ms k n pc L (.int x :: st) ws Q X := by
  intro p e s m args below meth c A H locs ls S hl hP hD hS
  exact lv_tableIn S.1 S.2.1 hd h1 h2 ho ht (h p e s m args below meth c A H locs ls S hl hP hD hS)
theorem am_tabOut {dflt lo hi : Int} {offs : Array Int} {len : Nat} {x : Int32} (tgt : Nat) (hd : decode cc pc = .ok (.tableswitch dflt lo hi offs, len)) (h1 : x.toInt < lo ∨ hi < x.toInt) (ht : (pc : Int) + dflt = (tgt : Int)) (h : am l D aC own cc nL ret ini tb G rm mc ms k n tgt L st ws Q X) : am l D aC own cc nL ret ini tb G rm mc ms k n pc L (.int x :: st) ws Q X := by
  intro p e s m args below meth c A H locs ls S hl hP hD hS
  exact lv_tableOut S.1 S.2.1 hd h1 ht (h p e s m args below meth c A H locs ls S hl hP hD hS)
end AML
