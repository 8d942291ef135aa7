
def w_L_stuck (a1 : Int32) (a2 : Int32) (I : am_MI) (J : am_MJ) (Q : Int32 → am_MI → am_MJ → Prop) (X : String → am_MI → am_MJ → Prop) : Prop :=
  w_B_stuck a1 a2 I J (fun (I1 : am_MI) (J2 : am_MJ) => Q 0 I1 J2) (fun (E : String) (I4 : am_MI) (J5 : am_MJ) => (E = "java/lang/IllegalArgumentException" ∧ (Q 1 I4 J5)) ∨ (E = "java/lang/IllegalStateException" ∧ (Q 2 I4 J5)))
set_option maxRecDepth 20000 in
theorem t_L_stuck {l : Launch} {D : va_G} {aC : Nat → ClassId} {ad : Nat → Nat} (hlt : l.stackTraces = false) {a1 : Int32} {a2 : Int32} {I : am_MI} {J : am_MJ} {Q} {X} (h : w_L_stuck a1 a2 I J Q X) : am_c l D aC yL_stuck (.codeWith yL_stuck cL_stuck 4 (some .int) [(0, 6, 9, 13), (0, 6, 12, 15)]) (am_rw 9) 1 6 [.ref (ad 0), .int a1, .int a2] (am_w ad aC I J) (am_li ad aC Q) (am_lx ad aC X) := by
  unfold w_L_stuck at h
  refine am_ofH hlt (by decide +kernel) (Nat.le_of_ble_eq_true rfl) ?_
  show am l D aC "BubbleBoxLaw" cL_stuck 4 (some .int) false [(0, 6, 9, 13), (0, 6, 12, 15)] am_G0 (am_rw 9) 1 6 0 0 0 [(0, .ref (ad 0)), (1, .int a1), (2, .int a2)] [] (am_w ad aC I J) (am_li ad aC Q) (am_lx ad aC X)
  refine am_aload_n 0 dL_stuck_0 rfl rfl ?_
  refine am_iload_n 1 dL_stuck_1 rfl rfl ?_
  refine am_iload_n 2 dL_stuck_2 rfl rfl ?_
  refine kX_B_stuck dL_stuck_3 (am_tw kw_346 rfl) (Nat.le_of_ble_eq_true rfl) ⟨Nat.le_of_ble_eq_true rfl, Nat.le_of_ble_eq_true rfl⟩ ⟨Nat.le_of_ble_eq_true rfl, Nat.le_of_ble_eq_true rfl⟩ hlt h (fun E I4 J5 h => ?_) (fun I1 J2 h => ?_)
  · rcases h with ⟨rfl, h⟩ | ⟨rfl, h⟩
    · refine am_catch (name := "java/lang/IllegalArgumentException") [] (0, 6, 9, 13) [(0, 6, 12, 15)] rfl (fun z hz => nomatch hz) rfl (by decide) (am_tw kw_344 rfl) (am_tn kw_352 rfl) (fun q9 => ?_)
      refine am_astore_n (L2 := [(3, .ref q9), (0, .ref (ad 0)), (1, .int a1), (2, .int a2)]) dL_stuck_9 rfl (Nat.le_of_ble_eq_true rfl) rfl ?_
      refine am_iconst (v := 1) dL_stuck_10 (by decide) ?_
      exact am_iret dL_stuck_11 rfl (Nat.le_of_ble_eq_true rfl) (Nat.le_of_ble_eq_true rfl) ⟨_, _, _, rfl, rfl, h⟩
    · refine am_catch (name := "java/lang/IllegalStateException") [(0, 6, 9, 13)] (0, 6, 12, 15) [] rfl (List.forall_mem_cons.mpr ⟨⟨rfl, "java/lang/IllegalArgumentException", (am_tw kw_344 rfl), by decide +kernel⟩, (fun z hz => nomatch hz)⟩) rfl (by decide) (am_tw kw_345 rfl) (am_tn kw_229 rfl) (fun q9 => ?_)
      refine am_astore_n (L2 := [(3, .ref q9), (0, .ref (ad 0)), (1, .int a1), (2, .int a2)]) dL_stuck_12 rfl (Nat.le_of_ble_eq_true rfl) rfl ?_
      refine am_iconst (v := 2) dL_stuck_13 (by decide) ?_
      exact am_iret dL_stuck_14 rfl (Nat.le_of_ble_eq_true rfl) (Nat.le_of_ble_eq_true rfl) ⟨_, _, _, rfl, rfl, h⟩
  · refine am_goto 15 dL_stuck_6 (by decide) ?_
    refine am_iconst (v := 0) dL_stuck_15 (by decide) ?_
    exact am_iret dL_stuck_16 rfl (Nat.le_of_ble_eq_true rfl) (Nat.le_of_ble_eq_true rfl) ⟨_, _, _, rfl, rfl, h⟩
section
variable {l : Launch} {D : va_G} {aC : Nat → ClassId} {ad : Nat → Nat} {own : String} {cc : ByteArray} {nL : Nat} {ret : Option FieldType} {ini : Bool} {tb : List (Nat × Nat × Nat × Nat)} {G : State → (Nat → Prop) → Prop} {rm : Room} {mc ms k n pc idx : Nat} {L : List (Nat × Value)} {st rest : List Value} {I : am_MI} {J : am_MJ} {Q : Option Value → va_W → Prop} {X : String → va_W → Prop}
theorem kH_L_stuck {a1 : Int32} {a2 : Int32} {K : Int32 → am_MI → am_MJ → Prop} {X1 : String → am_MI → am_MJ → Prop} (hd : decode cc pc = .ok (.invokestatic idx, 3)) (hlink : Cond.methodLink own idx yL_stuck ∈ am_TW) (hcat : (rest.map fun v => v.category).sum ≤ 8) (hR : 9 + 1 ≤ rm.frames ∧ 8 + (4 + 11) + 38 * 9 ≤ rm.locals) (hk : k + 2 ≤ rm.cells ∧ n + 12 ≤ rm.slots) (hm : k + 1 ≤ mc ∧ n + 6 ≤ ms) (hlt : l.stackTraces = false) (h : w_L_stuck a1 a2 I J K X1) (kk : ∀ (r : Int32) (I1 : am_MI) (J1 : am_MJ), K r I1 J1 → am l D aC own cc nL ret ini [] G rm mc ms (k + 1) (n + 6) (pc + 3) L (.int r :: rest) (am_w ad aC I1 J1) Q (am_lx ad aC X1)) : am l D aC own cc nL ret ini [] G rm mc ms k n pc L (.int a2 :: .int a1 :: .ref (ad 0) :: rest) (am_w ad aC I J) Q (am_lx ad aC X1) := by
  refine am_callSH (As := [.ref (ad 0), .int a1, .int a2]) (N9 := 3) (t_L_stuck hlt h) hd rfl hlink (am_tw kw_343 rfl) (am_tw kw_342 rfl) (am_tw kw_0 rfl) (by decide +kernel) rfl hcat ⟨rfl, rfl⟩ hR hk (fun E ws1 hx => am_out (fun x hx => nomatch hx) (Nat.add_le_add_right hm.1 1) (Nat.add_le_add_right hm.2 6) hx) ?_
  intro v ws1 hq
  obtain ⟨r, I1, J1, rfl, rfl, hq⟩ := hq
  exact kk r I1 J1 hq
end

def w_L_create (a1 : Int32) (I : am_MI) (J : am_MJ) (Q : Int32 → am_MI → am_MJ → Prop) (X : String → am_MI → am_MJ → Prop) : Prop :=
  w_B_create a1 I J (fun (r3 : Int32) (I1 : am_MI) (J2 : am_MJ) => vp_in (0 : Int32) 1 ∧ (Q 0 I1 (am_uj J2 45 (0 : Int32).toNatClampNeg r3.toInt64))) (fun (E : String) (I5 : am_MI) (J6 : am_MJ) => (E = "java/lang/IllegalStateException" ∧ (Q 1 I5 J6)) ∨ (E = "java/lang/IllegalArgumentException" ∧ (Q 2 I5 J6)) ∨ (E = "java/lang/UnsupportedOperationException" ∧ (Q 3 I5 J6)))
set_option maxRecDepth 20000 in
theorem t_L_create {l : Launch} {D : va_G} {aC : Nat → ClassId} {ad : Nat → Nat} (hlt : l.stackTraces = false) {a1 : Int32} {I : am_MI} {J : am_MJ} {Q} {X} (h : w_L_create a1 I J Q X) : am_c l D aC yL_create (.codeWith yL_create cL_create 4 (some .int) [(0, 9, 12, 15), (0, 9, 15, 13), (0, 9, 18, 25)]) (am_rw 10) 1 6 [.ref (ad 0), .int a1, .ref (ad 45)] (am_w ad aC I J) (am_li ad aC Q) (am_lx ad aC X) := by
  unfold w_L_create at h
  refine am_ofH hlt (by decide +kernel) (Nat.le_of_ble_eq_true rfl) ?_
  show am l D aC "BubbleBoxLaw" cL_create 4 (some .int) false [(0, 9, 12, 15), (0, 9, 15, 13), (0, 9, 18, 25)] am_G0 (am_rw 10) 1 6 0 0 0 [(0, .ref (ad 0)), (1, .int a1), (2, .ref (ad 45))] [] (am_w ad aC I J) (am_li ad aC Q) (am_lx ad aC X)
  refine am_aload_n 2 dL_create_0 rfl rfl ?_
  refine am_iconst (v := 0) dL_create_1 (by decide) ?_
  refine am_aload_n 0 dL_create_2 rfl rfl ?_
  refine am_iload_n 1 dL_create_3 rfl rfl ?_
  refine kX_B_create dL_create_4 (am_tw kw_419 rfl) (Nat.le_of_ble_eq_true rfl) ⟨Nat.le_of_ble_eq_true rfl, Nat.le_of_ble_eq_true rfl⟩ ⟨Nat.le_of_ble_eq_true rfl, Nat.le_of_ble_eq_true rfl⟩ hlt h (fun E I5 J6 h => ?_) (fun r3 I1 J2 h => ?_)
  · rcases h with ⟨rfl, h⟩ | ⟨rfl, h⟩ | ⟨rfl, h⟩
    · refine am_catch (name := "java/lang/IllegalStateException") [] (0, 9, 12, 15) [(0, 9, 15, 13), (0, 9, 18, 25)] rfl (fun z hz => nomatch hz) rfl (by decide) (am_tw kw_345 rfl) (am_tn kw_229 rfl) (fun q9 => ?_)
      refine am_astore_n (L2 := [(3, .ref q9), (0, .ref (ad 0)), (1, .int a1), (2, .ref (ad 45))]) dL_create_12 rfl (Nat.le_of_ble_eq_true rfl) rfl ?_
      refine am_iconst (v := 1) dL_create_13 (by decide) ?_
      exact am_iret dL_create_14 rfl (Nat.le_of_ble_eq_true rfl) (Nat.le_of_ble_eq_true rfl) ⟨_, _, _, rfl, rfl, h⟩
    · refine am_catch (name := "java/lang/IllegalArgumentException") [(0, 9, 12, 15)] (0, 9, 15, 13) [(0, 9, 18, 25)] rfl (List.forall_mem_cons.mpr ⟨⟨rfl, "java/lang/IllegalStateException", (am_tw kw_345 rfl), by decide +kernel⟩, (fun z hz => nomatch hz)⟩) rfl (by decide) (am_tw kw_344 rfl) (am_tn kw_352 rfl) (fun q9 => ?_)
      refine am_astore_n (L2 := [(3, .ref q9), (0, .ref (ad 0)), (1, .int a1), (2, .ref (ad 45))]) dL_create_15 rfl (Nat.le_of_ble_eq_true rfl) rfl ?_
      refine am_iconst (v := 2) dL_create_16 (by decide) ?_
      exact am_iret dL_create_17 rfl (Nat.le_of_ble_eq_true rfl) (Nat.le_of_ble_eq_true rfl) ⟨_, _, _, rfl, rfl, h⟩
    · refine am_catch (name := "java/lang/UnsupportedOperationException") [(0, 9, 12, 15), (0, 9, 15, 13)] (0, 9, 18, 25) [] rfl (List.forall_mem_cons.mpr ⟨⟨rfl, "java/lang/IllegalStateException", (am_tw kw_345 rfl), by decide +kernel⟩, (List.forall_mem_cons.mpr ⟨⟨rfl, "java/lang/IllegalArgumentException", (am_tw kw_344 rfl), by decide +kernel⟩, (fun z hz => nomatch hz)⟩)⟩) rfl (by decide) (am_tw kw_418 rfl) (am_tn kw_435 rfl) (fun q9 => ?_)
      refine am_astore_n (L2 := [(3, .ref q9), (0, .ref (ad 0)), (1, .int a1), (2, .ref (ad 45))]) dL_create_18 rfl (Nat.le_of_ble_eq_true rfl) rfl ?_
      refine am_iconst (v := 3) dL_create_19 (by decide) ?_
      exact am_iret dL_create_20 rfl (Nat.le_of_ble_eq_true rfl) (Nat.le_of_ble_eq_true rfl) ⟨_, _, _, rfl, rfl, h⟩
  · refine am_i2l dL_create_7 ?_
    obtain ⟨hi4, h⟩ := h
    refine st_45 hi4 dL_create_8 ?_
    refine am_goto 21 dL_create_9 (by decide) ?_
    refine am_iconst (v := 0) dL_create_21 (by decide) ?_
    exact am_iret dL_create_22 rfl (Nat.le_of_ble_eq_true rfl) (Nat.le_of_ble_eq_true rfl) ⟨_, _, _, rfl, rfl, h⟩
section
variable {l : Launch} {D : va_G} {aC : Nat → ClassId} {ad : Nat → Nat} {own : String} {cc : ByteArray} {nL : Nat} {ret : Option FieldType} {ini : Bool} {tb : List (Nat × Nat × Nat × Nat)} {G : State → (Nat → Prop) → Prop} {rm : Room} {mc ms k n pc idx : Nat} {L : List (Nat × Value)} {st rest : List Value} {I : am_MI} {J : am_MJ} {Q : Option Value → va_W → Prop} {X : String → va_W → Prop}
theorem kH_L_create {a1 : Int32} {K : Int32 → am_MI → am_MJ → Prop} {X1 : String → am_MI → am_MJ → Prop} (hd : decode cc pc = .ok (.invokestatic idx, 3)) (hlink : Cond.methodLink own idx yL_create ∈ am_TW) (hcat : (rest.map fun v => v.category).sum ≤ 8) (hR : 10 + 1 ≤ rm.frames ∧ 8 + (4 + 11) + 38 * 10 ≤ rm.locals) (hk : k + 2 ≤ rm.cells ∧ n + 12 ≤ rm.slots) (hm : k + 1 ≤ mc ∧ n + 6 ≤ ms) (hlt : l.stackTraces = false) (h : w_L_create a1 I J K X1) (kk : ∀ (r : Int32) (I1 : am_MI) (J1 : am_MJ), K r I1 J1 → am l D aC own cc nL ret ini [] G rm mc ms (k + 1) (n + 6) (pc + 3) L (.int r :: rest) (am_w ad aC I1 J1) Q (am_lx ad aC X1)) : am l D aC own cc nL ret ini [] G rm mc ms k n pc L (.ref (ad 45) :: .int a1 :: .ref (ad 0) :: rest) (am_w ad aC I J) Q (am_lx ad aC X1) := by
  refine am_callSH (As := [.ref (ad 0), .int a1, .ref (ad 45)]) (N9 := 3) (t_L_create hlt h) hd rfl hlink (am_tw kw_417 rfl) (am_tw kw_416 rfl) (am_tw kw_0 rfl) (by decide +kernel) rfl hcat ⟨rfl, rfl⟩ hR hk (fun E ws1 hx => am_out (fun x hx => nomatch hx) (Nat.add_le_add_right hm.1 1) (Nat.add_le_add_right hm.2 6) hx) ?_
  intro v ws1 hq
  obtain ⟨r, I1, J1, rfl, rfl, hq⟩ := hq
  exact kk r I1 J1 hq
end

def w_L_find (a1 : Int32) (I : am_MI) (J : am_MJ) (Q : Int32 → am_MI → am_MJ → Prop) (X : String → am_MI → am_MJ → Prop) : Prop :=
  w_B_find a1 I J (fun (r3 : Int32) (I1 : am_MI) (J2 : am_MJ) => vp_in (0 : Int32) 1 ∧ (Q 0 I1 (am_uj J2 45 (0 : Int32).toNatClampNeg r3.toInt64))) (fun (E : String) (I5 : am_MI) (J6 : am_MJ) => (E = "java/lang/IllegalStateException" ∧ (Q 1 I5 J6)))
set_option maxRecDepth 20000 in
theorem t_L_find {l : Launch} {D : va_G} {aC : Nat → ClassId} {ad : Nat → Nat} (hlt : l.stackTraces = false) {a1 : Int32} {I : am_MI} {J : am_MJ} {Q} {X} (h : w_L_find a1 I J Q X) : am_c l D aC yL_find (.codeWith yL_find cL_find 4 (some .int) [(0, 9, 12, 15)]) (am_rw 10) 1 6 [.ref (ad 0), .int a1, .ref (ad 45)] (am_w ad aC I J) (am_li ad aC Q) (am_lx ad aC X) := by
  unfold w_L_find at h
  refine am_ofH hlt (by decide +kernel) (Nat.le_of_ble_eq_true rfl) ?_
  show am l D aC "BubbleBoxLaw" cL_find 4 (some .int) false [(0, 9, 12, 15)] am_G0 (am_rw 10) 1 6 0 0 0 [(0, .ref (ad 0)), (1, .int a1), (2, .ref (ad 45))] [] (am_w ad aC I J) (am_li ad aC Q) (am_lx ad aC X)
  refine am_aload_n 2 dL_find_0 rfl rfl ?_
  refine am_iconst (v := 0) dL_find_1 (by decide) ?_
  refine am_aload_n 0 dL_find_2 rfl rfl ?_
  refine am_iload_n 1 dL_find_3 rfl rfl ?_
  refine kX_B_find dL_find_4 (am_tw kw_452 rfl) (Nat.le_of_ble_eq_true rfl) ⟨Nat.le_of_ble_eq_true rfl, Nat.le_of_ble_eq_true rfl⟩ ⟨Nat.le_of_ble_eq_true rfl, Nat.le_of_ble_eq_true rfl⟩ hlt h (fun E I5 J6 h => ?_) (fun r3 I1 J2 h => ?_)
  · rcases h with ⟨rfl, h⟩
    · refine am_catch (name := "java/lang/IllegalStateException") [] (0, 9, 12, 15) [] rfl (fun z hz => nomatch hz) rfl (by decide) (am_tw kw_345 rfl) (am_tn kw_229 rfl) (fun q9 => ?_)
      refine am_astore_n (L2 := [(3, .ref q9), (0, .ref (ad 0)), (1, .int a1), (2, .ref (ad 45))]) dL_find_12 rfl (Nat.le_of_ble_eq_true rfl) rfl ?_
      refine am_iconst (v := 1) dL_find_13 (by decide) ?_
      exact am_iret dL_find_14 rfl (Nat.le_of_ble_eq_true rfl) (Nat.le_of_ble_eq_true rfl) ⟨_, _, _, rfl, rfl, h⟩
  · refine am_i2l dL_find_7 ?_
    obtain ⟨hi4, h⟩ := h
    refine st_45 hi4 dL_find_8 ?_
    refine am_goto 15 dL_find_9 (by decide) ?_
    refine am_iconst (v := 0) dL_find_15 (by decide) ?_
    exact am_iret dL_find_16 rfl (Nat.le_of_ble_eq_true rfl) (Nat.le_of_ble_eq_true rfl) ⟨_, _, _, rfl, rfl, h⟩
section
variable {l : Launch} {D : va_G} {aC : Nat → ClassId} {ad : Nat → Nat} {own : String} {cc : ByteArray} {nL : Nat} {ret : Option FieldType} {ini : Bool} {tb : List (Nat × Nat × Nat × Nat)} {G : State → (Nat → Prop) → Prop} {rm : Room} {mc ms k n pc idx : Nat} {L : List (Nat × Value)} {st rest : List Value} {I : am_MI} {J : am_MJ} {Q : Option Value → va_W → Prop} {X : String → va_W → Prop}
theorem kH_L_find {a1 : Int32} {K : Int32 → am_MI → am_MJ → Prop} {X1 : String → am_MI → am_MJ → Prop} (hd : decode cc pc = .ok (.invokestatic idx, 3)) (hlink : Cond.methodLink own idx yL_find ∈ am_TW) (hcat : (rest.map fun v => v.category).sum ≤ 8) (hR : 10 + 1 ≤ rm.frames ∧ 8 + (4 + 11) + 38 * 10 ≤ rm.locals) (hk : k + 2 ≤ rm.cells ∧ n + 12 ≤ rm.slots) (hm : k + 1 ≤ mc ∧ n + 6 ≤ ms) (hlt : l.stackTraces = false) (h : w_L_find a1 I J K X1) (kk : ∀ (r : Int32) (I1 : am_MI) (J1 : am_MJ), K r I1 J1 → am l D aC own cc nL ret ini [] G rm mc ms (k + 1) (n + 6) (pc + 3) L (.int r :: rest) (am_w ad aC I1 J1) Q (am_lx ad aC X1)) : am l D aC own cc nL ret ini [] G rm mc ms k n pc L (.ref (ad 45) :: .int a1 :: .ref (ad 0) :: rest) (am_w ad aC I J) Q (am_lx ad aC X1) := by
  refine am_callSH (As := [.ref (ad 0), .int a1, .ref (ad 45)]) (N9 := 3) (t_L_find hlt h) hd rfl hlink (am_tw kw_451 rfl) (am_tw kw_450 rfl) (am_tw kw_0 rfl) (by decide +kernel) rfl hcat ⟨rfl, rfl⟩ hR hk (fun E ws1 hx => am_out (fun x hx => nomatch hx) (Nat.add_le_add_right hm.1 1) (Nat.add_le_add_right hm.2 6) hx) ?_
  intro v ws1 hq
  obtain ⟨r, I1, J1, rfl, rfl, hq⟩ := hq
  exact kk r I1 J1 hq
end

def w_L_free (I : am_MI) (J : am_MJ) (Q : Int32 → am_MI → am_MJ → Prop) (X : String → am_MI → am_MJ → Prop) : Prop :=
  w_B_free I J (fun (r3 : Int32) (I1 : am_MI) (J2 : am_MJ) => vp_in (0 : Int32) 1 ∧ (Q 0 I1 (am_uj J2 45 (0 : Int32).toNatClampNeg r3.toInt64))) (fun (E : String) (I5 : am_MI) (J6 : am_MJ) => (E = "java/lang/IllegalStateException" ∧ (Q 1 I5 J6)))
set_option maxRecDepth 20000 in
theorem t_L_free {l : Launch} {D : va_G} {aC : Nat → ClassId} {ad : Nat → Nat} (hlt : l.stackTraces = false) {I : am_MI} {J : am_MJ} {Q} {X} (h : w_L_free I J Q X) : am_c l D aC yL_free (.codeWith yL_free cL_free 3 (some .int) [(0, 8, 11, 15)]) (am_rw 10) 1 6 [.ref (ad 0), .ref (ad 45)] (am_w ad aC I J) (am_li ad aC Q) (am_lx ad aC X) := by
  unfold w_L_free at h
  refine am_ofH hlt (by decide +kernel) (Nat.le_of_ble_eq_true rfl) ?_
  show am l D aC "BubbleBoxLaw" cL_free 3 (some .int) false [(0, 8, 11, 15)] am_G0 (am_rw 10) 1 6 0 0 0 [(0, .ref (ad 0)), (1, .ref (ad 45))] [] (am_w ad aC I J) (am_li ad aC Q) (am_lx ad aC X)
  refine am_aload_n 1 dL_free_0 rfl rfl ?_
  refine am_iconst (v := 0) dL_free_1 (by decide) ?_
  refine am_aload_n 0 dL_free_2 rfl rfl ?_
  refine kX_B_free dL_free_3 (am_tw kw_588 rfl) (Nat.le_of_ble_eq_true rfl) ⟨Nat.le_of_ble_eq_true rfl, Nat.le_of_ble_eq_true rfl⟩ ⟨Nat.le_of_ble_eq_true rfl, Nat.le_of_ble_eq_true rfl⟩ hlt h (fun E I5 J6 h => ?_) (fun r3 I1 J2 h => ?_)
  · rcases h with ⟨rfl, h⟩
    · refine am_catch (name := "java/lang/IllegalStateException") [] (0, 8, 11, 15) [] rfl (fun z hz => nomatch hz) rfl (by decide) (am_tw kw_345 rfl) (am_tn kw_229 rfl) (fun q9 => ?_)
      refine am_astore_n (L2 := [(2, .ref q9), (0, .ref (ad 0)), (1, .ref (ad 45))]) dL_free_11 rfl (Nat.le_of_ble_eq_true rfl) rfl ?_
      refine am_iconst (v := 1) dL_free_12 (by decide) ?_
      exact am_iret dL_free_13 rfl (Nat.le_of_ble_eq_true rfl) (Nat.le_of_ble_eq_true rfl) ⟨_, _, _, rfl, rfl, h⟩
  · refine am_i2l dL_free_6 ?_
    obtain ⟨hi4, h⟩ := h
    refine st_45 hi4 dL_free_7 ?_
    refine am_goto 14 dL_free_8 (by decide) ?_
    refine am_iconst (v := 0) dL_free_14 (by decide) ?_
    exact am_iret dL_free_15 rfl (Nat.le_of_ble_eq_true rfl) (Nat.le_of_ble_eq_true rfl) ⟨_, _, _, rfl, rfl, h⟩
section
variable {l : Launch} {D : va_G} {aC : Nat → ClassId} {ad : Nat → Nat} {own : String} {cc : ByteArray} {nL : Nat} {ret : Option FieldType} {ini : Bool} {tb : List (Nat × Nat × Nat × Nat)} {G : State → (Nat → Prop) → Prop} {rm : Room} {mc ms k n pc idx : Nat} {L : List (Nat × Value)} {st rest : List Value} {I : am_MI} {J : am_MJ} {Q : Option Value → va_W → Prop} {X : String → va_W → Prop}
theorem kH_L_free {K : Int32 → am_MI → am_MJ → Prop} {X1 : String → am_MI → am_MJ → Prop} (hd : decode cc pc = .ok (.invokestatic idx, 3)) (hlink : Cond.methodLink own idx yL_free ∈ am_TW) (hcat : (rest.map fun v => v.category).sum ≤ 8) (hR : 10 + 1 ≤ rm.frames ∧ 8 + (3 + 11) + 38 * 10 ≤ rm.locals) (hk : k + 2 ≤ rm.cells ∧ n + 12 ≤ rm.slots) (hm : k + 1 ≤ mc ∧ n + 6 ≤ ms) (hlt : l.stackTraces = false) (h : w_L_free I J K X1) (kk : ∀ (r : Int32) (I1 : am_MI) (J1 : am_MJ), K r I1 J1 → am l D aC own cc nL ret ini [] G rm mc ms (k + 1) (n + 6) (pc + 3) L (.int r :: rest) (am_w ad aC I1 J1) Q (am_lx ad aC X1)) : am l D aC own cc nL ret ini [] G rm mc ms k n pc L (.ref (ad 45) :: .ref (ad 0) :: rest) (am_w ad aC I J) Q (am_lx ad aC X1) := by
  refine am_callSH (As := [.ref (ad 0), .ref (ad 45)]) (N9 := 2) (t_L_free hlt h) hd rfl hlink (am_tw kw_587 rfl) (am_tw kw_586 rfl) (am_tw kw_0 rfl) (by decide +kernel) rfl hcat ⟨rfl, rfl⟩ hR hk (fun E ws1 hx => am_out (fun x hx => nomatch hx) (Nat.add_le_add_right hm.1 1) (Nat.add_le_add_right hm.2 6) hx) ?_
  intro v ws1 hq
  obtain ⟨r, I1, J1, rfl, rfl, hq⟩ := hq
  exact kk r I1 J1 hq
end

def w_L_queue (a1 : Int32) (a2 : Int32) (a3 : Int64) (I : am_MI) (J : am_MJ) (Q : Int32 → am_MI → am_MJ → Prop) (X : String → am_MI → am_MJ → Prop) : Prop :=
  w_B_queue a1 a2 a3 I J (fun (r3 : Int32) (I1 : am_MI) (J2 : am_MJ) => vp_in (0 : Int32) 1 ∧ (Q 0 I1 (am_uj J2 45 (0 : Int32).toNatClampNeg r3.toInt64))) (fun (E : String) (I5 : am_MI) (J6 : am_MJ) => (E = "java/lang/IllegalStateException" ∧ (Q 1 I5 J6)) ∨ (E = "java/lang/IllegalArgumentException" ∧ (Q 2 I5 J6)) ∨ (E = "java/lang/UnsupportedOperationException" ∧ (Q 3 I5 J6)))
set_option maxRecDepth 20000 in
theorem t_L_queue {l : Launch} {D : va_G} {aC : Nat → ClassId} {ad : Nat → Nat} (hlt : l.stackTraces = false) {a1 : Int32} {a2 : Int32} {a3 : Int64} {I : am_MI} {J : am_MJ} {Q} {X} (h : w_L_queue a1 a2 a3 I J Q X) : am_c l D aC yL_queue (.codeWith yL_queue cL_queue 7 (some .int) [(0, 12, 15, 15), (0, 12, 19, 13), (0, 12, 23, 25)]) (am_rw 10) 1 6 [.ref (ad 0), .int a1, .int a2, .long a3, .ref (ad 45)] (am_w ad aC I J) (am_li ad aC Q) (am_lx ad aC X) := by
  unfold w_L_queue at h
  refine am_ofH hlt (by decide +kernel) (Nat.le_of_ble_eq_true rfl) ?_
  show am l D aC "BubbleBoxLaw" cL_queue 7 (some .int) false [(0, 12, 15, 15), (0, 12, 19, 13), (0, 12, 23, 25)] am_G0 (am_rw 10) 1 6 0 0 0 [(0, .ref (ad 0)), (1, .int a1), (2, .int a2), (3, .long a3), (5, .ref (ad 45))] [] (am_w ad aC I J) (am_li ad aC Q) (am_lx ad aC X)
  refine am_aload 4 dL_queue_0 rfl ?_
  refine am_iconst (v := 0) dL_queue_2 (by decide) ?_
  refine am_aload_n 0 dL_queue_3 rfl rfl ?_
  refine am_iload_n 1 dL_queue_4 rfl rfl ?_
  refine am_iload_n 2 dL_queue_5 rfl rfl ?_
  refine am_lload_n 3 dL_queue_6 rfl rfl ?_
  refine kX_B_queue dL_queue_7 (am_tw kw_606 rfl) (Nat.le_of_ble_eq_true rfl) ⟨Nat.le_of_ble_eq_true rfl, Nat.le_of_ble_eq_true rfl⟩ ⟨Nat.le_of_ble_eq_true rfl, Nat.le_of_ble_eq_true rfl⟩ hlt h (fun E I5 J6 h => ?_) (fun r3 I1 J2 h => ?_)
  · rcases h with ⟨rfl, h⟩ | ⟨rfl, h⟩ | ⟨rfl, h⟩
    · refine am_catch (name := "java/lang/IllegalStateException") [] (0, 12, 15, 15) [(0, 12, 19, 13), (0, 12, 23, 25)] rfl (fun z hz => nomatch hz) rfl (by decide) (am_tw kw_345 rfl) (am_tn kw_229 rfl) (fun q9 => ?_)
      refine am_astore (L2 := [(6, .ref q9), (0, .ref (ad 0)), (1, .int a1), (2, .int a2), (3, .long a3), (5, .ref (ad 45))]) dL_queue_15 (Nat.le_of_ble_eq_true rfl) rfl ?_
      refine am_iconst (v := 1) dL_queue_17 (by decide) ?_
      exact am_iret dL_queue_18 rfl (Nat.le_of_ble_eq_true rfl) (Nat.le_of_ble_eq_true rfl) ⟨_, _, _, rfl, rfl, h⟩
    · refine am_catch (name := "java/lang/IllegalArgumentException") [(0, 12, 15, 15)] (0, 12, 19, 13) [(0, 12, 23, 25)] rfl (List.forall_mem_cons.mpr ⟨⟨rfl, "java/lang/IllegalStateException", (am_tw kw_345 rfl), by decide +kernel⟩, (fun z hz => nomatch hz)⟩) rfl (by decide) (am_tw kw_344 rfl) (am_tn kw_352 rfl) (fun q9 => ?_)
      refine am_astore (L2 := [(6, .ref q9), (0, .ref (ad 0)), (1, .int a1), (2, .int a2), (3, .long a3), (5, .ref (ad 45))]) dL_queue_19 (Nat.le_of_ble_eq_true rfl) rfl ?_
      refine am_iconst (v := 2) dL_queue_21 (by decide) ?_
      exact am_iret dL_queue_22 rfl (Nat.le_of_ble_eq_true rfl) (Nat.le_of_ble_eq_true rfl) ⟨_, _, _, rfl, rfl, h⟩
    · refine am_catch (name := "java/lang/UnsupportedOperationException") [(0, 12, 15, 15), (0, 12, 19, 13)] (0, 12, 23, 25) [] rfl (List.forall_mem_cons.mpr ⟨⟨rfl, "java/lang/IllegalStateException", (am_tw kw_345 rfl), by decide +kernel⟩, (List.forall_mem_cons.mpr ⟨⟨rfl, "java/lang/IllegalArgumentException", (am_tw kw_344 rfl), by decide +kernel⟩, (fun z hz => nomatch hz)⟩)⟩) rfl (by decide) (am_tw kw_418 rfl) (am_tn kw_435 rfl) (fun q9 => ?_)
      refine am_astore (L2 := [(6, .ref q9), (0, .ref (ad 0)), (1, .int a1), (2, .int a2), (3, .long a3), (5, .ref (ad 45))]) dL_queue_23 (Nat.le_of_ble_eq_true rfl) rfl ?_
      refine am_iconst (v := 3) dL_queue_25 (by decide) ?_
      exact am_iret dL_queue_26 rfl (Nat.le_of_ble_eq_true rfl) (Nat.le_of_ble_eq_true rfl) ⟨_, _, _, rfl, rfl, h⟩
  · refine am_i2l dL_queue_10 ?_
    obtain ⟨hi4, h⟩ := h
    refine st_45 hi4 dL_queue_11 ?_
    refine am_goto 27 dL_queue_12 (by decide) ?_
    refine am_iconst (v := 0) dL_queue_27 (by decide) ?_
    exact am_iret dL_queue_28 rfl (Nat.le_of_ble_eq_true rfl) (Nat.le_of_ble_eq_true rfl) ⟨_, _, _, rfl, rfl, h⟩
section
variable {l : Launch} {D : va_G} {aC : Nat → ClassId} {ad : Nat → Nat} {own : String} {cc : ByteArray} {nL : Nat} {ret : Option FieldType} {ini : Bool} {tb : List (Nat × Nat × Nat × Nat)} {G : State → (Nat → Prop) → Prop} {rm : Room} {mc ms k n pc idx : Nat} {L : List (Nat × Value)} {st rest : List Value} {I : am_MI} {J : am_MJ} {Q : Option Value → va_W → Prop} {X : String → va_W → Prop}
theorem kH_L_queue {a1 : Int32} {a2 : Int32} {a3 : Int64} {K : Int32 → am_MI → am_MJ → Prop} {X1 : String → am_MI → am_MJ → Prop} (hd : decode cc pc = .ok (.invokestatic idx, 3)) (hlink : Cond.methodLink own idx yL_queue ∈ am_TW) (hcat : (rest.map fun v => v.category).sum ≤ 8) (hR : 10 + 1 ≤ rm.frames ∧ 8 + (7 + 11) + 38 * 10 ≤ rm.locals) (hk : k + 2 ≤ rm.cells ∧ n + 12 ≤ rm.slots) (hm : k + 1 ≤ mc ∧ n + 6 ≤ ms) (hlt : l.stackTraces = false) (h : w_L_queue a1 a2 a3 I J K X1) (kk : ∀ (r : Int32) (I1 : am_MI) (J1 : am_MJ), K r I1 J1 → am l D aC own cc nL ret ini [] G rm mc ms (k + 1) (n + 6) (pc + 3) L (.int r :: rest) (am_w ad aC I1 J1) Q (am_lx ad aC X1)) : am l D aC own cc nL ret ini [] G rm mc ms k n pc L (.ref (ad 45) :: .long a3 :: .int a2 :: .int a1 :: .ref (ad 0) :: rest) (am_w ad aC I J) Q (am_lx ad aC X1) := by
  refine am_callSH (As := [.ref (ad 0), .int a1, .int a2, .long a3, .ref (ad 45)]) (N9 := 5) (t_L_queue hlt h) hd rfl hlink (am_tw kw_605 rfl) (am_tw kw_604 rfl) (am_tw kw_0 rfl) (by decide +kernel) rfl hcat ⟨rfl, rfl⟩ hR hk (fun E ws1 hx => am_out (fun x hx => nomatch hx) (Nat.add_le_add_right hm.1 1) (Nat.add_le_add_right hm.2 6) hx) ?_
  intro v ws1 hq
  obtain ⟨r, I1, J1, rfl, rfl, hq⟩ := hq
  exact kk r I1 J1 hq
end

def w_L_served (a1 : Int32) (I : am_MI) (J : am_MJ) (Q : Int32 → am_MI → am_MJ → Prop) (X : String → am_MI → am_MJ → Prop) : Prop :=
  w_B_served a1 I J (fun (r3 : Int64) (I1 : am_MI) (J2 : am_MJ) => vp_in (0 : Int32) 1 ∧ (Q 0 I1 (am_uj J2 45 (0 : Int32).toNatClampNeg r3))) (fun (E : String) (I5 : am_MI) (J6 : am_MJ) => (E = "java/lang/IllegalStateException" ∧ (Q 1 I5 J6)) ∨ (E = "java/lang/IndexOutOfBoundsException" ∧ (Q 2 I5 J6)))
set_option maxRecDepth 20000 in
theorem t_L_served {l : Launch} {D : va_G} {aC : Nat → ClassId} {ad : Nat → Nat} (hlt : l.stackTraces = false) {a1 : Int32} {I : am_MI} {J : am_MJ} {Q} {X} (h : w_L_served a1 I J Q X) : am_c l D aC yL_served (.codeWith yL_served cL_served 4 (some .int) [(0, 8, 11, 15), (0, 8, 14, 40)]) (am_rw 10) 1 6 [.ref (ad 0), .int a1, .ref (ad 45)] (am_w ad aC I J) (am_li ad aC Q) (am_lx ad aC X) := by
  unfold w_L_served at h
  refine am_ofH hlt (by decide +kernel) (Nat.le_of_ble_eq_true rfl) ?_
  show am l D aC "BubbleBoxLaw" cL_served 4 (some .int) false [(0, 8, 11, 15), (0, 8, 14, 40)] am_G0 (am_rw 10) 1 6 0 0 0 [(0, .ref (ad 0)), (1, .int a1), (2, .ref (ad 45))] [] (am_w ad aC I J) (am_li ad aC Q) (am_lx ad aC X)
  refine am_aload_n 2 dL_served_0 rfl rfl ?_
  refine am_iconst (v := 0) dL_served_1 (by decide) ?_
  refine am_aload_n 0 dL_served_2 rfl rfl ?_
  refine am_iload_n 1 dL_served_3 rfl rfl ?_
  refine kX_B_served dL_served_4 (am_tw kw_640 rfl) (Nat.le_of_ble_eq_true rfl) ⟨Nat.le_of_ble_eq_true rfl, Nat.le_of_ble_eq_true rfl⟩ ⟨Nat.le_of_ble_eq_true rfl, Nat.le_of_ble_eq_true rfl⟩ hlt h (fun E I5 J6 h => ?_) (fun r3 I1 J2 h => ?_)
  · rcases h with ⟨rfl, h⟩ | ⟨rfl, h⟩
    · refine am_catch (name := "java/lang/IllegalStateException") [] (0, 8, 11, 15) [(0, 8, 14, 40)] rfl (fun z hz => nomatch hz) rfl (by decide) (am_tw kw_345 rfl) (am_tn kw_229 rfl) (fun q9 => ?_)
      refine am_astore_n (L2 := [(3, .ref q9), (0, .ref (ad 0)), (1, .int a1), (2, .ref (ad 45))]) dL_served_11 rfl (Nat.le_of_ble_eq_true rfl) rfl ?_
      refine am_iconst (v := 1) dL_served_12 (by decide) ?_
      exact am_iret dL_served_13 rfl (Nat.le_of_ble_eq_true rfl) (Nat.le_of_ble_eq_true rfl) ⟨_, _, _, rfl, rfl, h⟩
    · refine am_catch (name := "java/lang/IndexOutOfBoundsException") [(0, 8, 11, 15)] (0, 8, 14, 40) [] rfl (List.forall_mem_cons.mpr ⟨⟨rfl, "java/lang/IllegalStateException", (am_tw kw_345 rfl), by decide +kernel⟩, (fun z hz => nomatch hz)⟩) rfl (by decide) (am_tw kw_528 rfl) (am_tn kw_535 rfl) (fun q9 => ?_)
      refine am_astore_n (L2 := [(3, .ref q9), (0, .ref (ad 0)), (1, .int a1), (2, .ref (ad 45))]) dL_served_14 rfl (Nat.le_of_ble_eq_true rfl) rfl ?_
      refine am_iconst (v := 2) dL_served_15 (by decide) ?_
      exact am_iret dL_served_16 rfl (Nat.le_of_ble_eq_true rfl) (Nat.le_of_ble_eq_true rfl) ⟨_, _, _, rfl, rfl, h⟩
  · obtain ⟨hi4, h⟩ := h
    refine st_45 hi4 dL_served_7 ?_
    refine am_goto 17 dL_served_8 (by decide) ?_
    refine am_iconst (v := 0) dL_served_17 (by decide) ?_
    exact am_iret dL_served_18 rfl (Nat.le_of_ble_eq_true rfl) (Nat.le_of_ble_eq_true rfl) ⟨_, _, _, rfl, rfl, h⟩
section
variable {l : Launch} {D : va_G} {aC : Nat → ClassId} {ad : Nat → Nat} {own : String} {cc : ByteArray} {nL : Nat} {ret : Option FieldType} {ini : Bool} {tb : List (Nat × Nat × Nat × Nat)} {G : State → (Nat → Prop) → Prop} {rm : Room} {mc ms k n pc idx : Nat} {L : List (Nat × Value)} {st rest : List Value} {I : am_MI} {J : am_MJ} {Q : Option Value → va_W → Prop} {X : String → va_W → Prop}
theorem kH_L_served {a1 : Int32} {K : Int32 → am_MI → am_MJ → Prop} {X1 : String → am_MI → am_MJ → Prop} (hd : decode cc pc = .ok (.invokestatic idx, 3)) (hlink : Cond.methodLink own idx yL_served ∈ am_TW) (hcat : (rest.map fun v => v.category).sum ≤ 8) (hR : 10 + 1 ≤ rm.frames ∧ 8 + (4 + 11) + 38 * 10 ≤ rm.locals) (hk : k + 2 ≤ rm.cells ∧ n + 12 ≤ rm.slots) (hm : k + 1 ≤ mc ∧ n + 6 ≤ ms) (hlt : l.stackTraces = false) (h : w_L_served a1 I J K X1) (kk : ∀ (r : Int32) (I1 : am_MI) (J1 : am_MJ), K r I1 J1 → am l D aC own cc nL ret ini [] G rm mc ms (k + 1) (n + 6) (pc + 3) L (.int r :: rest) (am_w ad aC I1 J1) Q (am_lx ad aC X1)) : am l D aC own cc nL ret ini [] G rm mc ms k n pc L (.ref (ad 45) :: .int a1 :: .ref (ad 0) :: rest) (am_w ad aC I J) Q (am_lx ad aC X1) := by
  refine am_callSH (As := [.ref (ad 0), .int a1, .ref (ad 45)]) (N9 := 3) (t_L_served hlt h) hd rfl hlink (am_tw kw_639 rfl) (am_tw kw_638 rfl) (am_tw kw_0 rfl) (by decide +kernel) rfl hcat ⟨rfl, rfl⟩ hR hk (fun E ws1 hx => am_out (fun x hx => nomatch hx) (Nat.add_le_add_right hm.1 1) (Nat.add_le_add_right hm.2 6) hx) ?_
  intro v ws1 hq
  obtain ⟨r, I1, J1, rfl, rfl, hq⟩ := hq
  exact kk r I1 J1 hq
end

def w_L_length (a1 : Int32) (I : am_MI) (J : am_MJ) (Q : Int32 → am_MI → am_MJ → Prop) (X : String → am_MI → am_MJ → Prop) : Prop :=
  w_B_length a1 I J (fun (r3 : Int32) (I1 : am_MI) (J2 : am_MJ) => vp_in (0 : Int32) 1 ∧ (Q 0 I1 (am_uj J2 45 (0 : Int32).toNatClampNeg r3.toInt64))) (fun (E : String) (I5 : am_MI) (J6 : am_MJ) => (E = "java/lang/IllegalStateException" ∧ (Q 1 I5 J6)) ∨ (E = "java/lang/IllegalArgumentException" ∧ (Q 2 I5 J6)))
set_option maxRecDepth 20000 in
theorem t_L_length {l : Launch} {D : va_G} {aC : Nat → ClassId} {ad : Nat → Nat} (hlt : l.stackTraces = false) {a1 : Int32} {I : am_MI} {J : am_MJ} {Q} {X} (h : w_L_length a1 I J Q X) : am_c l D aC yL_length (.codeWith yL_length cL_length 4 (some .int) [(0, 9, 12, 15), (0, 9, 15, 13)]) (am_rw 11) 1 6 [.ref (ad 0), .int a1, .ref (ad 45)] (am_w ad aC I J) (am_li ad aC Q) (am_lx ad aC X) := by
  unfold w_L_length at h
  refine am_ofH hlt (by decide +kernel) (Nat.le_of_ble_eq_true rfl) ?_
  show am l D aC "BubbleBoxLaw" cL_length 4 (some .int) false [(0, 9, 12, 15), (0, 9, 15, 13)] am_G0 (am_rw 11) 1 6 0 0 0 [(0, .ref (ad 0)), (1, .int a1), (2, .ref (ad 45))] [] (am_w ad aC I J) (am_li ad aC Q) (am_lx ad aC X)
  refine am_aload_n 2 dL_length_0 rfl rfl ?_
  refine am_iconst (v := 0) dL_length_1 (by decide) ?_
  refine am_aload_n 0 dL_length_2 rfl rfl ?_
  refine am_iload_n 1 dL_length_3 rfl rfl ?_
  refine kX_B_length dL_length_4 (am_tw kw_459 rfl) (Nat.le_of_ble_eq_true rfl) ⟨Nat.le_of_ble_eq_true rfl, Nat.le_of_ble_eq_true rfl⟩ ⟨Nat.le_of_ble_eq_true rfl, Nat.le_of_ble_eq_true rfl⟩ hlt h (fun E I5 J6 h => ?_) (fun r3 I1 J2 h => ?_)
  · rcases h with ⟨rfl, h⟩ | ⟨rfl, h⟩
    · refine am_catch (name := "java/lang/IllegalStateException") [] (0, 9, 12, 15) [(0, 9, 15, 13)] rfl (fun z hz => nomatch hz) rfl (by decide) (am_tw kw_345 rfl) (am_tn kw_229 rfl) (fun q9 => ?_)
      refine am_astore_n (L2 := [(3, .ref q9), (0, .ref (ad 0)), (1, .int a1), (2, .ref (ad 45))]) dL_length_12 rfl (Nat.le_of_ble_eq_true rfl) rfl ?_
      refine am_iconst (v := 1) dL_length_13 (by decide) ?_
      exact am_iret dL_length_14 rfl (Nat.le_of_ble_eq_true rfl) (Nat.le_of_ble_eq_true rfl) ⟨_, _, _, rfl, rfl, h⟩
    · refine am_catch (name := "java/lang/IllegalArgumentException") [(0, 9, 12, 15)] (0, 9, 15, 13) [] rfl (List.forall_mem_cons.mpr ⟨⟨rfl, "java/lang/IllegalStateException", (am_tw kw_345 rfl), by decide +kernel⟩, (fun z hz => nomatch hz)⟩) rfl (by decide) (am_tw kw_344 rfl) (am_tn kw_352 rfl) (fun q9 => ?_)
      refine am_astore_n (L2 := [(3, .ref q9), (0, .ref (ad 0)), (1, .int a1), (2, .ref (ad 45))]) dL_length_15 rfl (Nat.le_of_ble_eq_true rfl) rfl ?_
      refine am_iconst (v := 2) dL_length_16 (by decide) ?_
      exact am_iret dL_length_17 rfl (Nat.le_of_ble_eq_true rfl) (Nat.le_of_ble_eq_true rfl) ⟨_, _, _, rfl, rfl, h⟩
  · refine am_i2l dL_length_7 ?_
    obtain ⟨hi4, h⟩ := h
    refine st_45 hi4 dL_length_8 ?_
    refine am_goto 18 dL_length_9 (by decide) ?_
    refine am_iconst (v := 0) dL_length_18 (by decide) ?_
    exact am_iret dL_length_19 rfl (Nat.le_of_ble_eq_true rfl) (Nat.le_of_ble_eq_true rfl) ⟨_, _, _, rfl, rfl, h⟩
section
variable {l : Launch} {D : va_G} {aC : Nat → ClassId} {ad : Nat → Nat} {own : String} {cc : ByteArray} {nL : Nat} {ret : Option FieldType} {ini : Bool} {tb : List (Nat × Nat × Nat × Nat)} {G : State → (Nat → Prop) → Prop} {rm : Room} {mc ms k n pc idx : Nat} {L : List (Nat × Value)} {st rest : List Value} {I : am_MI} {J : am_MJ} {Q : Option Value → va_W → Prop} {X : String → va_W → Prop}
theorem kH_L_length {a1 : Int32} {K : Int32 → am_MI → am_MJ → Prop} {X1 : String → am_MI → am_MJ → Prop} (hd : decode cc pc = .ok (.invokestatic idx, 3)) (hlink : Cond.methodLink own idx yL_length ∈ am_TW) (hcat : (rest.map fun v => v.category).sum ≤ 8) (hR : 11 + 1 ≤ rm.frames ∧ 8 + (4 + 11) + 38 * 11 ≤ rm.locals) (hk : k + 2 ≤ rm.cells ∧ n + 12 ≤ rm.slots) (hm : k + 1 ≤ mc ∧ n + 6 ≤ ms) (hlt : l.stackTraces = false) (h : w_L_length a1 I J K X1) (kk : ∀ (r : Int32) (I1 : am_MI) (J1 : am_MJ), K r I1 J1 → am l D aC own cc nL ret ini [] G rm mc ms (k + 1) (n + 6) (pc + 3) L (.int r :: rest) (am_w ad aC I1 J1) Q (am_lx ad aC X1)) : am l D aC own cc nL ret ini [] G rm mc ms k n pc L (.ref (ad 45) :: .int a1 :: .ref (ad 0) :: rest) (am_w ad aC I J) Q (am_lx ad aC X1) := by
  refine am_callSH (As := [.ref (ad 0), .int a1, .ref (ad 45)]) (N9 := 3) (t_L_length hlt h) hd rfl hlink (am_tw kw_458 rfl) (am_tw kw_457 rfl) (am_tw kw_0 rfl) (by decide +kernel) rfl hcat ⟨rfl, rfl⟩ hR hk (fun E ws1 hx => am_out (fun x hx => nomatch hx) (Nat.add_le_add_right hm.1 1) (Nat.add_le_add_right hm.2 6) hx) ?_
  intro v ws1 hq
  obtain ⟨r, I1, J1, rfl, rfl, hq⟩ := hq
  exact kk r I1 J1 hq
end

def w_L_pageOf (a1 : Int32) (a2 : Int32) (I : am_MI) (J : am_MJ) (Q : Int32 → am_MI → am_MJ → Prop) (X : String → am_MI → am_MJ → Prop) : Prop :=
  w_B_pageOf a1 a2 I J (fun (r3 : Int32) (I1 : am_MI) (J2 : am_MJ) => vp_in (0 : Int32) 1 ∧ (Q 0 I1 (am_uj J2 45 (0 : Int32).toNatClampNeg r3.toInt64))) (fun (E : String) (I5 : am_MI) (J6 : am_MJ) => (E = "java/lang/IllegalStateException" ∧ (Q 1 I5 J6)) ∨ (E = "java/lang/IllegalArgumentException" ∧ (Q 2 I5 J6)))
set_option maxRecDepth 20000 in
theorem t_L_pageOf {l : Launch} {D : va_G} {aC : Nat → ClassId} {ad : Nat → Nat} (hlt : l.stackTraces = false) {a1 : Int32} {a2 : Int32} {I : am_MI} {J : am_MJ} {Q} {X} (h : w_L_pageOf a1 a2 I J Q X) : am_c l D aC yL_pageOf (.codeWith yL_pageOf cL_pageOf 5 (some .int) [(0, 10, 13, 15), (0, 10, 17, 13)]) (am_rw 11) 1 6 [.ref (ad 0), .int a1, .int a2, .ref (ad 45)] (am_w ad aC I J) (am_li ad aC Q) (am_lx ad aC X) := by
  unfold w_L_pageOf at h
  refine am_ofH hlt (by decide +kernel) (Nat.le_of_ble_eq_true rfl) ?_
  show am l D aC "BubbleBoxLaw" cL_pageOf 5 (some .int) false [(0, 10, 13, 15), (0, 10, 17, 13)] am_G0 (am_rw 11) 1 6 0 0 0 [(0, .ref (ad 0)), (1, .int a1), (2, .int a2), (3, .ref (ad 45))] [] (am_w ad aC I J) (am_li ad aC Q) (am_lx ad aC X)
  refine am_aload_n 3 dL_pageOf_0 rfl rfl ?_
  refine am_iconst (v := 0) dL_pageOf_1 (by decide) ?_
  refine am_aload_n 0 dL_pageOf_2 rfl rfl ?_
  refine am_iload_n 1 dL_pageOf_3 rfl rfl ?_
  refine am_iload_n 2 dL_pageOf_4 rfl rfl ?_
  refine kX_B_pageOf dL_pageOf_5 (am_tw kw_599 rfl) (Nat.le_of_ble_eq_true rfl) ⟨Nat.le_of_ble_eq_true rfl, Nat.le_of_ble_eq_true rfl⟩ ⟨Nat.le_of_ble_eq_true rfl, Nat.le_of_ble_eq_true rfl⟩ hlt h (fun E I5 J6 h => ?_) (fun r3 I1 J2 h => ?_)
  · rcases h with ⟨rfl, h⟩ | ⟨rfl, h⟩
    · refine am_catch (name := "java/lang/IllegalStateException") [] (0, 10, 13, 15) [(0, 10, 17, 13)] rfl (fun z hz => nomatch hz) rfl (by decide) (am_tw kw_345 rfl) (am_tn kw_229 rfl) (fun q9 => ?_)
      refine am_astore (L2 := [(4, .ref q9), (0, .ref (ad 0)), (1, .int a1), (2, .int a2), (3, .ref (ad 45))]) dL_pageOf_13 (Nat.le_of_ble_eq_true rfl) rfl ?_
      refine am_iconst (v := 1) dL_pageOf_15 (by decide) ?_
      exact am_iret dL_pageOf_16 rfl (Nat.le_of_ble_eq_true rfl) (Nat.le_of_ble_eq_true rfl) ⟨_, _, _, rfl, rfl, h⟩
    · refine am_catch (name := "java/lang/IllegalArgumentException") [(0, 10, 13, 15)] (0, 10, 17, 13) [] rfl (List.forall_mem_cons.mpr ⟨⟨rfl, "java/lang/IllegalStateException", (am_tw kw_345 rfl), by decide +kernel⟩, (fun z hz => nomatch hz)⟩) rfl (by decide) (am_tw kw_344 rfl) (am_tn kw_352 rfl) (fun q9 => ?_)
      refine am_astore (L2 := [(4, .ref q9), (0, .ref (ad 0)), (1, .int a1), (2, .int a2), (3, .ref (ad 45))]) dL_pageOf_17 (Nat.le_of_ble_eq_true rfl) rfl ?_
      refine am_iconst (v := 2) dL_pageOf_19 (by decide) ?_
      exact am_iret dL_pageOf_20 rfl (Nat.le_of_ble_eq_true rfl) (Nat.le_of_ble_eq_true rfl) ⟨_, _, _, rfl, rfl, h⟩
  · refine am_i2l dL_pageOf_8 ?_
    obtain ⟨hi4, h⟩ := h
    refine st_45 hi4 dL_pageOf_9 ?_
    refine am_goto 21 dL_pageOf_10 (by decide) ?_
    refine am_iconst (v := 0) dL_pageOf_21 (by decide) ?_
    exact am_iret dL_pageOf_22 rfl (Nat.le_of_ble_eq_true rfl) (Nat.le_of_ble_eq_true rfl) ⟨_, _, _, rfl, rfl, h⟩
section
variable {l : Launch} {D : va_G} {aC : Nat → ClassId} {ad : Nat → Nat} {own : String} {cc : ByteArray} {nL : Nat} {ret : Option FieldType} {ini : Bool} {tb : List (Nat × Nat × Nat × Nat)} {G : State → (Nat → Prop) → Prop} {rm : Room} {mc ms k n pc idx : Nat} {L : List (Nat × Value)} {st rest : List Value} {I : am_MI} {J : am_MJ} {Q : Option Value → va_W → Prop} {X : String → va_W → Prop}
theorem kH_L_pageOf {a1 : Int32} {a2 : Int32} {K : Int32 → am_MI → am_MJ → Prop} {X1 : String → am_MI → am_MJ → Prop} (hd : decode cc pc = .ok (.invokestatic idx, 3)) (hlink : Cond.methodLink own idx yL_pageOf ∈ am_TW) (hcat : (rest.map fun v => v.category).sum ≤ 8) (hR : 11 + 1 ≤ rm.frames ∧ 8 + (5 + 11) + 38 * 11 ≤ rm.locals) (hk : k + 2 ≤ rm.cells ∧ n + 12 ≤ rm.slots) (hm : k + 1 ≤ mc ∧ n + 6 ≤ ms) (hlt : l.stackTraces = false) (h : w_L_pageOf a1 a2 I J K X1) (kk : ∀ (r : Int32) (I1 : am_MI) (J1 : am_MJ), K r I1 J1 → am l D aC own cc nL ret ini [] G rm mc ms (k + 1) (n + 6) (pc + 3) L (.int r :: rest) (am_w ad aC I1 J1) Q (am_lx ad aC X1)) : am l D aC own cc nL ret ini [] G rm mc ms k n pc L (.ref (ad 45) :: .int a2 :: .int a1 :: .ref (ad 0) :: rest) (am_w ad aC I J) Q (am_lx ad aC X1) := by
  refine am_callSH (As := [.ref (ad 0), .int a1, .int a2, .ref (ad 45)]) (N9 := 4) (t_L_pageOf hlt h) hd rfl hlink (am_tw kw_598 rfl) (am_tw kw_597 rfl) (am_tw kw_0 rfl) (by decide +kernel) rfl hcat ⟨rfl, rfl⟩ hR hk (fun E ws1 hx => am_out (fun x hx => nomatch hx) (Nat.add_le_add_right hm.1 1) (Nat.add_le_add_right hm.2 6) hx) ?_
  intro v ws1 hq
  obtain ⟨r, I1, J1, rfl, rfl, hq⟩ := hq
  exact kk r I1 J1 hq
end

def w_L_remove (a1 : Int32) (I : am_MI) (J : am_MJ) (Q : Int32 → am_MI → am_MJ → Prop) (X : String → am_MI → am_MJ → Prop) : Prop :=
  w_B_remove a1 I J (fun (r3 : Int32) (I1 : am_MI) (J2 : am_MJ) => vp_in (0 : Int32) 1 ∧ (Q 0 I1 (am_uj J2 45 (0 : Int32).toNatClampNeg r3.toInt64))) (fun (E : String) (I5 : am_MI) (J6 : am_MJ) => (E = "java/lang/IllegalStateException" ∧ (Q 1 I5 J6)) ∨ (E = "java/lang/IllegalArgumentException" ∧ (Q 2 I5 J6)))
set_option maxRecDepth 20000 in
theorem t_L_remove {l : Launch} {D : va_G} {aC : Nat → ClassId} {ad : Nat → Nat} (hlt : l.stackTraces = false) {a1 : Int32} {I : am_MI} {J : am_MJ} {Q} {X} (h : w_L_remove a1 I J Q X) : am_c l D aC yL_remove (.codeWith yL_remove cL_remove 4 (some .int) [(0, 9, 12, 15), (0, 9, 15, 13)]) (am_rw 11) 1 6 [.ref (ad 0), .int a1, .ref (ad 45)] (am_w ad aC I J) (am_li ad aC Q) (am_lx ad aC X) := by
  unfold w_L_remove at h
  refine am_ofH hlt (by decide +kernel) (Nat.le_of_ble_eq_true rfl) ?_
  show am l D aC "BubbleBoxLaw" cL_remove 4 (some .int) false [(0, 9, 12, 15), (0, 9, 15, 13)] am_G0 (am_rw 11) 1 6 0 0 0 [(0, .ref (ad 0)), (1, .int a1), (2, .ref (ad 45))] [] (am_w ad aC I J) (am_li ad aC Q) (am_lx ad aC X)
  refine am_aload_n 2 dL_remove_0 rfl rfl ?_
  refine am_iconst (v := 0) dL_remove_1 (by decide) ?_
  refine am_aload_n 0 dL_remove_2 rfl rfl ?_
  refine am_iload_n 1 dL_remove_3 rfl rfl ?_
  refine kX_B_remove dL_remove_4 (am_tw kw_573 rfl) (Nat.le_of_ble_eq_true rfl) ⟨Nat.le_of_ble_eq_true rfl, Nat.le_of_ble_eq_true rfl⟩ ⟨Nat.le_of_ble_eq_true rfl, Nat.le_of_ble_eq_true rfl⟩ hlt h (fun E I5 J6 h => ?_) (fun r3 I1 J2 h => ?_)
  · rcases h with ⟨rfl, h⟩ | ⟨rfl, h⟩
    · refine am_catch (name := "java/lang/IllegalStateException") [] (0, 9, 12, 15) [(0, 9, 15, 13)] rfl (fun z hz => nomatch hz) rfl (by decide) (am_tw kw_345 rfl) (am_tn kw_229 rfl) (fun q9 => ?_)
      refine am_astore_n (L2 := [(3, .ref q9), (0, .ref (ad 0)), (1, .int a1), (2, .ref (ad 45))]) dL_remove_12 rfl (Nat.le_of_ble_eq_true rfl) rfl ?_
      refine am_iconst (v := 1) dL_remove_13 (by decide) ?_
      exact am_iret dL_remove_14 rfl (Nat.le_of_ble_eq_true rfl) (Nat.le_of_ble_eq_true rfl) ⟨_, _, _, rfl, rfl, h⟩
    · refine am_catch (name := "java/lang/IllegalArgumentException") [(0, 9, 12, 15)] (0, 9, 15, 13) [] rfl (List.forall_mem_cons.mpr ⟨⟨rfl, "java/lang/IllegalStateException", (am_tw kw_345 rfl), by decide +kernel⟩, (fun z hz => nomatch hz)⟩) rfl (by decide) (am_tw kw_344 rfl) (am_tn kw_352 rfl) (fun q9 => ?_)
      refine am_astore_n (L2 := [(3, .ref q9), (0, .ref (ad 0)), (1, .int a1), (2, .ref (ad 45))]) dL_remove_15 rfl (Nat.le_of_ble_eq_true rfl) rfl ?_
      refine am_iconst (v := 2) dL_remove_16 (by decide) ?_
      exact am_iret dL_remove_17 rfl (Nat.le_of_ble_eq_true rfl) (Nat.le_of_ble_eq_true rfl) ⟨_, _, _, rfl, rfl, h⟩
  · refine am_i2l dL_remove_7 ?_
    obtain ⟨hi4, h⟩ := h
    refine st_45 hi4 dL_remove_8 ?_
    refine am_goto 18 dL_remove_9 (by decide) ?_
    refine am_iconst (v := 0) dL_remove_18 (by decide) ?_
    exact am_iret dL_remove_19 rfl (Nat.le_of_ble_eq_true rfl) (Nat.le_of_ble_eq_true rfl) ⟨_, _, _, rfl, rfl, h⟩
section
variable {l : Launch} {D : va_G} {aC : Nat → ClassId} {ad : Nat → Nat} {own : String} {cc : ByteArray} {nL : Nat} {ret : Option FieldType} {ini : Bool} {tb : List (Nat × Nat × Nat × Nat)} {G : State → (Nat → Prop) → Prop} {rm : Room} {mc ms k n pc idx : Nat} {L : List (Nat × Value)} {st rest : List Value} {I : am_MI} {J : am_MJ} {Q : Option Value → va_W → Prop} {X : String → va_W → Prop}
theorem kH_L_remove {a1 : Int32} {K : Int32 → am_MI → am_MJ → Prop} {X1 : String → am_MI → am_MJ → Prop} (hd : decode cc pc = .ok (.invokestatic idx, 3)) (hlink : Cond.methodLink own idx yL_remove ∈ am_TW) (hcat : (rest.map fun v => v.category).sum ≤ 8) (hR : 11 + 1 ≤ rm.frames ∧ 8 + (4 + 11) + 38 * 11 ≤ rm.locals) (hk : k + 2 ≤ rm.cells ∧ n + 12 ≤ rm.slots) (hm : k + 1 ≤ mc ∧ n + 6 ≤ ms) (hlt : l.stackTraces = false) (h : w_L_remove a1 I J K X1) (kk : ∀ (r : Int32) (I1 : am_MI) (J1 : am_MJ), K r I1 J1 → am l D aC own cc nL ret ini [] G rm mc ms (k + 1) (n + 6) (pc + 3) L (.int r :: rest) (am_w ad aC I1 J1) Q (am_lx ad aC X1)) : am l D aC own cc nL ret ini [] G rm mc ms k n pc L (.ref (ad 45) :: .int a1 :: .ref (ad 0) :: rest) (am_w ad aC I J) Q (am_lx ad aC X1) := by
  refine am_callSH (As := [.ref (ad 0), .int a1, .ref (ad 45)]) (N9 := 3) (t_L_remove hlt h) hd rfl hlink (am_tw kw_572 rfl) (am_tw kw_571 rfl) (am_tw kw_0 rfl) (by decide +kernel) rfl hcat ⟨rfl, rfl⟩ hR hk (fun E ws1 hx => am_out (fun x hx => nomatch hx) (Nat.add_le_add_right hm.1 1) (Nat.add_le_add_right hm.2 6) hx) ?_
  intro v ws1 hq
  obtain ⟨r, I1, J1, rfl, rfl, hq⟩ := hq
  exact kk r I1 J1 hq
end

def w_L_truncate (a1 : Int32) (a2 : Int32) (I : am_MI) (J : am_MJ) (Q : Int32 → am_MI → am_MJ → Prop) (X : String → am_MI → am_MJ → Prop) : Prop :=
  w_B_truncate a1 a2 I J (fun (r3 : Int32) (I1 : am_MI) (J2 : am_MJ) => vp_in (0 : Int32) 1 ∧ (Q 0 I1 (am_uj J2 45 (0 : Int32).toNatClampNeg r3.toInt64))) (fun (E : String) (I5 : am_MI) (J6 : am_MJ) => (E = "java/lang/IllegalStateException" ∧ (Q 1 I5 J6)) ∨ (E = "java/lang/IllegalArgumentException" ∧ (Q 2 I5 J6)))
set_option maxRecDepth 20000 in
theorem t_L_truncate {l : Launch} {D : va_G} {aC : Nat → ClassId} {ad : Nat → Nat} (hlt : l.stackTraces = false) {a1 : Int32} {a2 : Int32} {I : am_MI} {J : am_MJ} {Q} {X} (h : w_L_truncate a1 a2 I J Q X) : am_c l D aC yL_truncate (.codeWith yL_truncate cL_truncate 5 (some .int) [(0, 10, 13, 15), (0, 10, 17, 13)]) (am_rw 11) 1 6 [.ref (ad 0), .int a1, .int a2, .ref (ad 45)] (am_w ad aC I J) (am_li ad aC Q) (am_lx ad aC X) := by
  unfold w_L_truncate at h
  refine am_ofH hlt (by decide +kernel) (Nat.le_of_ble_eq_true rfl) ?_
  show am l D aC "BubbleBoxLaw" cL_truncate 5 (some .int) false [(0, 10, 13, 15), (0, 10, 17, 13)] am_G0 (am_rw 11) 1 6 0 0 0 [(0, .ref (ad 0)), (1, .int a1), (2, .int a2), (3, .ref (ad 45))] [] (am_w ad aC I J) (am_li ad aC Q) (am_lx ad aC X)
  refine am_aload_n 3 dL_truncate_0 rfl rfl ?_
  refine am_iconst (v := 0) dL_truncate_1 (by decide) ?_
  refine am_aload_n 0 dL_truncate_2 rfl rfl ?_
  refine am_iload_n 1 dL_truncate_3 rfl rfl ?_
  refine am_iload_n 2 dL_truncate_4 rfl rfl ?_
  refine kX_B_truncate dL_truncate_5 (am_tw kw_556 rfl) (Nat.le_of_ble_eq_true rfl) ⟨Nat.le_of_ble_eq_true rfl, Nat.le_of_ble_eq_true rfl⟩ ⟨Nat.le_of_ble_eq_true rfl, Nat.le_of_ble_eq_true rfl⟩ hlt h (fun E I5 J6 h => ?_) (fun r3 I1 J2 h => ?_)
  · rcases h with ⟨rfl, h⟩ | ⟨rfl, h⟩
    · refine am_catch (name := "java/lang/IllegalStateException") [] (0, 10, 13, 15) [(0, 10, 17, 13)] rfl (fun z hz => nomatch hz) rfl (by decide) (am_tw kw_345 rfl) (am_tn kw_229 rfl) (fun q9 => ?_)
      refine am_astore (L2 := [(4, .ref q9), (0, .ref (ad 0)), (1, .int a1), (2, .int a2), (3, .ref (ad 45))]) dL_truncate_13 (Nat.le_of_ble_eq_true rfl) rfl ?_
      refine am_iconst (v := 1) dL_truncate_15 (by decide) ?_
      exact am_iret dL_truncate_16 rfl (Nat.le_of_ble_eq_true rfl) (Nat.le_of_ble_eq_true rfl) ⟨_, _, _, rfl, rfl, h⟩
    · refine am_catch (name := "java/lang/IllegalArgumentException") [(0, 10, 13, 15)] (0, 10, 17, 13) [] rfl (List.forall_mem_cons.mpr ⟨⟨rfl, "java/lang/IllegalStateException", (am_tw kw_345 rfl), by decide +kernel⟩, (fun z hz => nomatch hz)⟩) rfl (by decide) (am_tw kw_344 rfl) (am_tn kw_352 rfl) (fun q9 => ?_)
      refine am_astore (L2 := [(4, .ref q9), (0, .ref (ad 0)), (1, .int a1), (2, .int a2), (3, .ref (ad 45))]) dL_truncate_17 (Nat.le_of_ble_eq_true rfl) rfl ?_
      refine am_iconst (v := 2) dL_truncate_19 (by decide) ?_
      exact am_iret dL_truncate_20 rfl (Nat.le_of_ble_eq_true rfl) (Nat.le_of_ble_eq_true rfl) ⟨_, _, _, rfl, rfl, h⟩
  · refine am_i2l dL_truncate_8 ?_
    obtain ⟨hi4, h⟩ := h
    refine st_45 hi4 dL_truncate_9 ?_
    refine am_goto 21 dL_truncate_10 (by decide) ?_
    refine am_iconst (v := 0) dL_truncate_21 (by decide) ?_
    exact am_iret dL_truncate_22 rfl (Nat.le_of_ble_eq_true rfl) (Nat.le_of_ble_eq_true rfl) ⟨_, _, _, rfl, rfl, h⟩
section
variable {l : Launch} {D : va_G} {aC : Nat → ClassId} {ad : Nat → Nat} {own : String} {cc : ByteArray} {nL : Nat} {ret : Option FieldType} {ini : Bool} {tb : List (Nat × Nat × Nat × Nat)} {G : State → (Nat → Prop) → Prop} {rm : Room} {mc ms k n pc idx : Nat} {L : List (Nat × Value)} {st rest : List Value} {I : am_MI} {J : am_MJ} {Q : Option Value → va_W → Prop} {X : String → va_W → Prop}
theorem kH_L_truncate {a1 : Int32} {a2 : Int32} {K : Int32 → am_MI → am_MJ → Prop} {X1 : String → am_MI → am_MJ → Prop} (hd : decode cc pc = .ok (.invokestatic idx, 3)) (hlink : Cond.methodLink own idx yL_truncate ∈ am_TW) (hcat : (rest.map fun v => v.category).sum ≤ 8) (hR : 11 + 1 ≤ rm.frames ∧ 8 + (5 + 11) + 38 * 11 ≤ rm.locals) (hk : k + 2 ≤ rm.cells ∧ n + 12 ≤ rm.slots) (hm : k + 1 ≤ mc ∧ n + 6 ≤ ms) (hlt : l.stackTraces = false) (h : w_L_truncate a1 a2 I J K X1) (kk : ∀ (r : Int32) (I1 : am_MI) (J1 : am_MJ), K r I1 J1 → am l D aC own cc nL ret ini [] G rm mc ms (k + 1) (n + 6) (pc + 3) L (.int r :: rest) (am_w ad aC I1 J1) Q (am_lx ad aC X1)) : am l D aC own cc nL ret ini [] G rm mc ms k n pc L (.ref (ad 45) :: .int a2 :: .int a1 :: .ref (ad 0) :: rest) (am_w ad aC I J) Q (am_lx ad aC X1) := by
  refine am_callSH (As := [.ref (ad 0), .int a1, .int a2, .ref (ad 45)]) (N9 := 4) (t_L_truncate hlt h) hd rfl hlink (am_tw kw_555 rfl) (am_tw kw_554 rfl) (am_tw kw_0 rfl) (by decide +kernel) rfl hcat ⟨rfl, rfl⟩ hR hk (fun E ws1 hx => am_out (fun x hx => nomatch hx) (Nat.add_le_add_right hm.1 1) (Nat.add_le_add_right hm.2 6) hx) ?_
  intro v ws1 hq
  obtain ⟨r, I1, J1, rfl, rfl, hq⟩ := hq
  exact kk r I1 J1 hq
end

def w_L_serve (I : am_MI) (J : am_MJ) (Q : Int32 → am_MI → am_MJ → Prop) (X : String → am_MI → am_MJ → Prop) : Prop :=
  w_B_serve I J (fun (r3 : Int32) (I1 : am_MI) (J2 : am_MJ) => vp_in (0 : Int32) 1 ∧ (Q 0 I1 (am_uj J2 45 (0 : Int32).toNatClampNeg r3.toInt64))) (fun (E : String) (I5 : am_MI) (J6 : am_MJ) => (E = "java/lang/IllegalStateException" ∧ (Q 1 I5 J6)))
set_option maxRecDepth 20000 in
theorem t_L_serve {l : Launch} {D : va_G} {aC : Nat → ClassId} {ad : Nat → Nat} (hlt : l.stackTraces = false) {I : am_MI} {J : am_MJ} {Q} {X} (h : w_L_serve I J Q X) : am_c l D aC yL_serve (.codeWith yL_serve cL_serve 3 (some .int) [(0, 8, 11, 15)]) (am_rw 12) 1 6 [.ref (ad 0), .ref (ad 45)] (am_w ad aC I J) (am_li ad aC Q) (am_lx ad aC X) := by
  unfold w_L_serve at h
  refine am_ofH hlt (by decide +kernel) (Nat.le_of_ble_eq_true rfl) ?_
  show am l D aC "BubbleBoxLaw" cL_serve 3 (some .int) false [(0, 8, 11, 15)] am_G0 (am_rw 12) 1 6 0 0 0 [(0, .ref (ad 0)), (1, .ref (ad 45))] [] (am_w ad aC I J) (am_li ad aC Q) (am_lx ad aC X)
  refine am_aload_n 1 dL_serve_0 rfl rfl ?_
  refine am_iconst (v := 0) dL_serve_1 (by decide) ?_
  refine am_aload_n 0 dL_serve_2 rfl rfl ?_
  refine kX_B_serve dL_serve_3 (am_tw kw_619 rfl) (Nat.le_of_ble_eq_true rfl) ⟨Nat.le_of_ble_eq_true rfl, Nat.le_of_ble_eq_true rfl⟩ ⟨Nat.le_of_ble_eq_true rfl, Nat.le_of_ble_eq_true rfl⟩ hlt h (fun E I5 J6 h => ?_) (fun r3 I1 J2 h => ?_)
  · rcases h with ⟨rfl, h⟩
    · refine am_catch (name := "java/lang/IllegalStateException") [] (0, 8, 11, 15) [] rfl (fun z hz => nomatch hz) rfl (by decide) (am_tw kw_345 rfl) (am_tn kw_229 rfl) (fun q9 => ?_)
      refine am_astore_n (L2 := [(2, .ref q9), (0, .ref (ad 0)), (1, .ref (ad 45))]) dL_serve_11 rfl (Nat.le_of_ble_eq_true rfl) rfl ?_
      refine am_iconst (v := 1) dL_serve_12 (by decide) ?_
      exact am_iret dL_serve_13 rfl (Nat.le_of_ble_eq_true rfl) (Nat.le_of_ble_eq_true rfl) ⟨_, _, _, rfl, rfl, h⟩
  · refine am_i2l dL_serve_6 ?_
    obtain ⟨hi4, h⟩ := h
    refine st_45 hi4 dL_serve_7 ?_
    refine am_goto 14 dL_serve_8 (by decide) ?_
    refine am_iconst (v := 0) dL_serve_14 (by decide) ?_
    exact am_iret dL_serve_15 rfl (Nat.le_of_ble_eq_true rfl) (Nat.le_of_ble_eq_true rfl) ⟨_, _, _, rfl, rfl, h⟩
section
variable {l : Launch} {D : va_G} {aC : Nat → ClassId} {ad : Nat → Nat} {own : String} {cc : ByteArray} {nL : Nat} {ret : Option FieldType} {ini : Bool} {tb : List (Nat × Nat × Nat × Nat)} {G : State → (Nat → Prop) → Prop} {rm : Room} {mc ms k n pc idx : Nat} {L : List (Nat × Value)} {st rest : List Value} {I : am_MI} {J : am_MJ} {Q : Option Value → va_W → Prop} {X : String → va_W → Prop}
theorem kH_L_serve {K : Int32 → am_MI → am_MJ → Prop} {X1 : String → am_MI → am_MJ → Prop} (hd : decode cc pc = .ok (.invokestatic idx, 3)) (hlink : Cond.methodLink own idx yL_serve ∈ am_TW) (hcat : (rest.map fun v => v.category).sum ≤ 8) (hR : 12 + 1 ≤ rm.frames ∧ 8 + (3 + 11) + 38 * 12 ≤ rm.locals) (hk : k + 2 ≤ rm.cells ∧ n + 12 ≤ rm.slots) (hm : k + 1 ≤ mc ∧ n + 6 ≤ ms) (hlt : l.stackTraces = false) (h : w_L_serve I J K X1) (kk : ∀ (r : Int32) (I1 : am_MI) (J1 : am_MJ), K r I1 J1 → am l D aC own cc nL ret ini [] G rm mc ms (k + 1) (n + 6) (pc + 3) L (.int r :: rest) (am_w ad aC I1 J1) Q (am_lx ad aC X1)) : am l D aC own cc nL ret ini [] G rm mc ms k n pc L (.ref (ad 45) :: .ref (ad 0) :: rest) (am_w ad aC I J) Q (am_lx ad aC X1) := by
  refine am_callSH (As := [.ref (ad 0), .ref (ad 45)]) (N9 := 2) (t_L_serve hlt h) hd rfl hlink (am_tw kw_618 rfl) (am_tw kw_617 rfl) (am_tw kw_0 rfl) (by decide +kernel) rfl hcat ⟨rfl, rfl⟩ hR hk (fun E ws1 hx => am_out (fun x hx => nomatch hx) (Nat.add_le_add_right hm.1 1) (Nat.add_le_add_right hm.2 6) hx) ?_
  intro v ws1 hq
  obtain ⟨r, I1, J1, rfl, rfl, hq⟩ := hq
  exact kk r I1 J1 hq
end

def w_L_byteAt (a1 : Int32) (a2 : Int32) (I : am_MI) (J : am_MJ) (Q : Int32 → am_MI → am_MJ → Prop) (X : String → am_MI → am_MJ → Prop) : Prop :=
  w_B_byteAt a1 a2 I J (fun (r3 : Int32) (I1 : am_MI) (J2 : am_MJ) => vp_in (0 : Int32) 1 ∧ (Q 0 I1 (am_uj J2 45 (0 : Int32).toNatClampNeg r3.toInt64))) (fun (E : String) (I5 : am_MI) (J6 : am_MJ) => (E = "java/lang/IllegalStateException" ∧ (Q 1 I5 J6)) ∨ (E = "java/lang/IllegalArgumentException" ∧ (Q 2 I5 J6)) ∨ (E = "java/lang/IndexOutOfBoundsException" ∧ (Q 3 I5 J6)))
set_option maxRecDepth 20000 in
theorem t_L_byteAt {l : Launch} {D : va_G} {aC : Nat → ClassId} {ad : Nat → Nat} (hlt : l.stackTraces = false) {a1 : Int32} {a2 : Int32} {I : am_MI} {J : am_MJ} {Q} {X} (h : w_L_byteAt a1 a2 I J Q X) : am_c l D aC yL_byteAt (.codeWith yL_byteAt cL_byteAt 5 (some .int) [(0, 10, 13, 15), (0, 10, 17, 13), (0, 10, 21, 40)]) (am_rw 13) 1 6 [.ref (ad 0), .int a1, .int a2, .ref (ad 45)] (am_w ad aC I J) (am_li ad aC Q) (am_lx ad aC X) := by
  unfold w_L_byteAt at h
  refine am_ofH hlt (by decide +kernel) (Nat.le_of_ble_eq_true rfl) ?_
  show am l D aC "BubbleBoxLaw" cL_byteAt 5 (some .int) false [(0, 10, 13, 15), (0, 10, 17, 13), (0, 10, 21, 40)] am_G0 (am_rw 13) 1 6 0 0 0 [(0, .ref (ad 0)), (1, .int a1), (2, .int a2), (3, .ref (ad 45))] [] (am_w ad aC I J) (am_li ad aC Q) (am_lx ad aC X)
  refine am_aload_n 3 dL_byteAt_0 rfl rfl ?_
  refine am_iconst (v := 0) dL_byteAt_1 (by decide) ?_
  refine am_aload_n 0 dL_byteAt_2 rfl rfl ?_
  refine am_iload_n 1 dL_byteAt_3 rfl rfl ?_
  refine am_iload_n 2 dL_byteAt_4 rfl rfl ?_
  refine kX_B_byteAt dL_byteAt_5 (am_tw kw_529 rfl) (Nat.le_of_ble_eq_true rfl) ⟨Nat.le_of_ble_eq_true rfl, Nat.le_of_ble_eq_true rfl⟩ ⟨Nat.le_of_ble_eq_true rfl, Nat.le_of_ble_eq_true rfl⟩ hlt h (fun E I5 J6 h => ?_) (fun r3 I1 J2 h => ?_)
  · rcases h with ⟨rfl, h⟩ | ⟨rfl, h⟩ | ⟨rfl, h⟩
    · refine am_catch (name := "java/lang/IllegalStateException") [] (0, 10, 13, 15) [(0, 10, 17, 13), (0, 10, 21, 40)] rfl (fun z hz => nomatch hz) rfl (by decide) (am_tw kw_345 rfl) (am_tn kw_229 rfl) (fun q9 => ?_)
      refine am_astore (L2 := [(4, .ref q9), (0, .ref (ad 0)), (1, .int a1), (2, .int a2), (3, .ref (ad 45))]) dL_byteAt_13 (Nat.le_of_ble_eq_true rfl) rfl ?_
      refine am_iconst (v := 1) dL_byteAt_15 (by decide) ?_
      exact am_iret dL_byteAt_16 rfl (Nat.le_of_ble_eq_true rfl) (Nat.le_of_ble_eq_true rfl) ⟨_, _, _, rfl, rfl, h⟩
    · refine am_catch (name := "java/lang/IllegalArgumentException") [(0, 10, 13, 15)] (0, 10, 17, 13) [(0, 10, 21, 40)] rfl (List.forall_mem_cons.mpr ⟨⟨rfl, "java/lang/IllegalStateException", (am_tw kw_345 rfl), by decide +kernel⟩, (fun z hz => nomatch hz)⟩) rfl (by decide) (am_tw kw_344 rfl) (am_tn kw_352 rfl) (fun q9 => ?_)
      refine am_astore (L2 := [(4, .ref q9), (0, .ref (ad 0)), (1, .int a1), (2, .int a2), (3, .ref (ad 45))]) dL_byteAt_17 (Nat.le_of_ble_eq_true rfl) rfl ?_
      refine am_iconst (v := 2) dL_byteAt_19 (by decide) ?_
      exact am_iret dL_byteAt_20 rfl (Nat.le_of_ble_eq_true rfl) (Nat.le_of_ble_eq_true rfl) ⟨_, _, _, rfl, rfl, h⟩
    · refine am_catch (name := "java/lang/IndexOutOfBoundsException") [(0, 10, 13, 15), (0, 10, 17, 13)] (0, 10, 21, 40) [] rfl (List.forall_mem_cons.mpr ⟨⟨rfl, "java/lang/IllegalStateException", (am_tw kw_345 rfl), by decide +kernel⟩, (List.forall_mem_cons.mpr ⟨⟨rfl, "java/lang/IllegalArgumentException", (am_tw kw_344 rfl), by decide +kernel⟩, (fun z hz => nomatch hz)⟩)⟩) rfl (by decide) (am_tw kw_528 rfl) (am_tn kw_535 rfl) (fun q9 => ?_)
      refine am_astore (L2 := [(4, .ref q9), (0, .ref (ad 0)), (1, .int a1), (2, .int a2), (3, .ref (ad 45))]) dL_byteAt_21 (Nat.le_of_ble_eq_true rfl) rfl ?_
      refine am_iconst (v := 3) dL_byteAt_23 (by decide) ?_
      exact am_iret dL_byteAt_24 rfl (Nat.le_of_ble_eq_true rfl) (Nat.le_of_ble_eq_true rfl) ⟨_, _, _, rfl, rfl, h⟩
  · refine am_i2l dL_byteAt_8 ?_
    obtain ⟨hi4, h⟩ := h
    refine st_45 hi4 dL_byteAt_9 ?_
    refine am_goto 25 dL_byteAt_10 (by decide) ?_
    refine am_iconst (v := 0) dL_byteAt_25 (by decide) ?_
    exact am_iret dL_byteAt_26 rfl (Nat.le_of_ble_eq_true rfl) (Nat.le_of_ble_eq_true rfl) ⟨_, _, _, rfl, rfl, h⟩
section
variable {l : Launch} {D : va_G} {aC : Nat → ClassId} {ad : Nat → Nat} {own : String} {cc : ByteArray} {nL : Nat} {ret : Option FieldType} {ini : Bool} {tb : List (Nat × Nat × Nat × Nat)} {G : State → (Nat → Prop) → Prop} {rm : Room} {mc ms k n pc idx : Nat} {L : List (Nat × Value)} {st rest : List Value} {I : am_MI} {J : am_MJ} {Q : Option Value → va_W → Prop} {X : String → va_W → Prop}
theorem kH_L_byteAt {a1 : Int32} {a2 : Int32} {K : Int32 → am_MI → am_MJ → Prop} {X1 : String → am_MI → am_MJ → Prop} (hd : decode cc pc = .ok (.invokestatic idx, 3)) (hlink : Cond.methodLink own idx yL_byteAt ∈ am_TW) (hcat : (rest.map fun v => v.category).sum ≤ 8) (hR : 13 + 1 ≤ rm.frames ∧ 8 + (5 + 11) + 38 * 13 ≤ rm.locals) (hk : k + 2 ≤ rm.cells ∧ n + 12 ≤ rm.slots) (hm : k + 1 ≤ mc ∧ n + 6 ≤ ms) (hlt : l.stackTraces = false) (h : w_L_byteAt a1 a2 I J K X1) (kk : ∀ (r : Int32) (I1 : am_MI) (J1 : am_MJ), K r I1 J1 → am l D aC own cc nL ret ini [] G rm mc ms (k + 1) (n + 6) (pc + 3) L (.int r :: rest) (am_w ad aC I1 J1) Q (am_lx ad aC X1)) : am l D aC own cc nL ret ini [] G rm mc ms k n pc L (.ref (ad 45) :: .int a2 :: .int a1 :: .ref (ad 0) :: rest) (am_w ad aC I J) Q (am_lx ad aC X1) := by
  refine am_callSH (As := [.ref (ad 0), .int a1, .int a2, .ref (ad 45)]) (N9 := 4) (t_L_byteAt hlt h) hd rfl hlink (am_tw kw_527 rfl) (am_tw kw_526 rfl) (am_tw kw_0 rfl) (by decide +kernel) rfl hcat ⟨rfl, rfl⟩ hR hk (fun E ws1 hx => am_out (fun x hx => nomatch hx) (Nat.add_le_add_right hm.1 1) (Nat.add_le_add_right hm.2 6) hx) ?_
  intro v ws1 hq
  obtain ⟨r, I1, J1, rfl, rfl, hq⟩ := hq
  exact kk r I1 J1 hq
end

def w_L_format (I : am_MI) (J : am_MJ) (Q : Int32 → am_MI → am_MJ → Prop) (X : String → am_MI → am_MJ → Prop) : Prop :=
  w_B_format I J (fun (r3 : Int32) (I1 : am_MI) (J2 : am_MJ) => (r3 = 0 → (vp_in (0 : Int32) 1 ∧ (Q 0 I1 (am_uj J2 45 (0 : Int32).toNatClampNeg (0 : Int64))))) ∧ (¬ (r3 = 0) → (vp_in (0 : Int32) 1 ∧ (Q 0 I1 (am_uj J2 45 (0 : Int32).toNatClampNeg (1 : Int64)))))) (fun (E : String) (I7 : am_MI) (J8 : am_MJ) => (E = "java/lang/IllegalStateException" ∧ (Q 1 I7 J8)))
set_option maxRecDepth 20000 in
theorem t_L_format {l : Launch} {D : va_G} {aC : Nat → ClassId} {ad : Nat → Nat} (hlt : l.stackTraces = false) {I : am_MI} {J : am_MJ} {Q} {X} (h : w_L_format I J Q X) : am_c l D aC yL_format (.codeWith yL_format cL_format 3 (some .int) [(0, 15, 18, 15)]) (am_rw 13) 1 6 [.ref (ad 0), .ref (ad 45)] (am_w ad aC I J) (am_li ad aC Q) (am_lx ad aC X) := by
  unfold w_L_format at h
  refine am_ofH hlt (by decide +kernel) (Nat.le_of_ble_eq_true rfl) ?_
  show am l D aC "BubbleBoxLaw" cL_format 3 (some .int) false [(0, 15, 18, 15)] am_G0 (am_rw 13) 1 6 0 0 0 [(0, .ref (ad 0)), (1, .ref (ad 45))] [] (am_w ad aC I J) (am_li ad aC Q) (am_lx ad aC X)
  refine am_aload_n 1 dL_format_0 rfl rfl ?_
  refine am_iconst (v := 0) dL_format_1 (by decide) ?_
  refine am_aload_n 0 dL_format_2 rfl rfl ?_
  refine kX_B_format dL_format_3 (am_tw kw_371 rfl) (Nat.le_of_ble_eq_true rfl) ⟨Nat.le_of_ble_eq_true rfl, Nat.le_of_ble_eq_true rfl⟩ ⟨Nat.le_of_ble_eq_true rfl, Nat.le_of_ble_eq_true rfl⟩ hlt h (fun E I7 J8 h => ?_) (fun r3 I1 J2 h => ?_)
  · rcases h with ⟨rfl, h⟩
    · refine am_catch (name := "java/lang/IllegalStateException") [] (0, 15, 18, 15) [] rfl (fun z hz => nomatch hz) rfl (by decide) (am_tw kw_345 rfl) (am_tn kw_229 rfl) (fun q9 => ?_)
      refine am_astore_n (L2 := [(2, .ref q9), (0, .ref (ad 0)), (1, .ref (ad 45))]) dL_format_18 rfl (Nat.le_of_ble_eq_true rfl) rfl ?_
      refine am_iconst (v := 1) dL_format_19 (by decide) ?_
      exact am_iret dL_format_20 rfl (Nat.le_of_ble_eq_true rfl) (Nat.le_of_ble_eq_true rfl) ⟨_, _, _, rfl, rfl, h⟩
  · refine am_if_eq 13 dL_format_6 (by decide) (fun hc4 => ?_) (fun hc4 => ?_)
    · replace h := h.1 hc4
      refine am_lconst (v := 0) dL_format_13 (by decide) ?_
      obtain ⟨hi5, h⟩ := h
      refine st_45 hi5 dL_format_14 ?_
      refine am_goto 21 dL_format_15 (by decide) ?_
      refine am_iconst (v := 0) dL_format_21 (by decide) ?_
      exact am_iret dL_format_22 rfl (Nat.le_of_ble_eq_true rfl) (Nat.le_of_ble_eq_true rfl) ⟨_, _, _, rfl, rfl, h⟩
    · replace h := h.2 hc4
      refine am_lconst (v := 1) dL_format_9 (by decide) ?_
      refine am_goto 14 dL_format_10 (by decide) ?_
      obtain ⟨hi6, h⟩ := h
      refine st_45 hi6 dL_format_14 ?_
      refine am_goto 21 dL_format_15 (by decide) ?_
      refine am_iconst (v := 0) dL_format_21 (by decide) ?_
      exact am_iret dL_format_22 rfl (Nat.le_of_ble_eq_true rfl) (Nat.le_of_ble_eq_true rfl) ⟨_, _, _, rfl, rfl, h⟩
section
variable {l : Launch} {D : va_G} {aC : Nat → ClassId} {ad : Nat → Nat} {own : String} {cc : ByteArray} {nL : Nat} {ret : Option FieldType} {ini : Bool} {tb : List (Nat × Nat × Nat × Nat)} {G : State → (Nat → Prop) → Prop} {rm : Room} {mc ms k n pc idx : Nat} {L : List (Nat × Value)} {st rest : List Value} {I : am_MI} {J : am_MJ} {Q : Option Value → va_W → Prop} {X : String → va_W → Prop}
theorem kH_L_format {K : Int32 → am_MI → am_MJ → Prop} {X1 : String → am_MI → am_MJ → Prop} (hd : decode cc pc = .ok (.invokestatic idx, 3)) (hlink : Cond.methodLink own idx yL_format ∈ am_TW) (hcat : (rest.map fun v => v.category).sum ≤ 8) (hR : 13 + 1 ≤ rm.frames ∧ 8 + (3 + 11) + 38 * 13 ≤ rm.locals) (hk : k + 2 ≤ rm.cells ∧ n + 12 ≤ rm.slots) (hm : k + 1 ≤ mc ∧ n + 6 ≤ ms) (hlt : l.stackTraces = false) (h : w_L_format I J K X1) (kk : ∀ (r : Int32) (I1 : am_MI) (J1 : am_MJ), K r I1 J1 → am l D aC own cc nL ret ini [] G rm mc ms (k + 1) (n + 6) (pc + 3) L (.int r :: rest) (am_w ad aC I1 J1) Q (am_lx ad aC X1)) : am l D aC own cc nL ret ini [] G rm mc ms k n pc L (.ref (ad 45) :: .ref (ad 0) :: rest) (am_w ad aC I J) Q (am_lx ad aC X1) := by
  refine am_callSH (As := [.ref (ad 0), .ref (ad 45)]) (N9 := 2) (t_L_format hlt h) hd rfl hlink (am_tw kw_370 rfl) (am_tw kw_369 rfl) (am_tw kw_0 rfl) (by decide +kernel) rfl hcat ⟨rfl, rfl⟩ hR hk (fun E ws1 hx => am_out (fun x hx => nomatch hx) (Nat.add_le_add_right hm.1 1) (Nat.add_le_add_right hm.2 6) hx) ?_
  intro v ws1 hq
  obtain ⟨r, I1, J1, rfl, rfl, hq⟩ := hq
  exact kk r I1 J1 hq
end

def w_L_sync (I : am_MI) (J : am_MJ) (Q : Int32 → am_MI → am_MJ → Prop) (X : String → am_MI → am_MJ → Prop) : Prop :=
  w_B_sync I J (fun (r3 : Int32) (I1 : am_MI) (J2 : am_MJ) => vp_in (0 : Int32) 1 ∧ (Q 0 I1 (am_uj J2 45 (0 : Int32).toNatClampNeg r3.toInt64))) (fun (E : String) (I5 : am_MI) (J6 : am_MJ) => (E = "java/lang/IllegalStateException" ∧ (Q 1 I5 J6)))
set_option maxRecDepth 20000 in
theorem t_L_sync {l : Launch} {D : va_G} {aC : Nat → ClassId} {ad : Nat → Nat} (hlt : l.stackTraces = false) {I : am_MI} {J : am_MJ} {Q} {X} (h : w_L_sync I J Q X) : am_c l D aC yL_sync (.codeWith yL_sync cL_sync 3 (some .int) [(0, 8, 11, 15)]) (am_rw 13) 1 6 [.ref (ad 0), .ref (ad 45)] (am_w ad aC I J) (am_li ad aC Q) (am_lx ad aC X) := by
  unfold w_L_sync at h
  refine am_ofH hlt (by decide +kernel) (Nat.le_of_ble_eq_true rfl) ?_
  show am l D aC "BubbleBoxLaw" cL_sync 3 (some .int) false [(0, 8, 11, 15)] am_G0 (am_rw 13) 1 6 0 0 0 [(0, .ref (ad 0)), (1, .ref (ad 45))] [] (am_w ad aC I J) (am_li ad aC Q) (am_lx ad aC X)
  refine am_aload_n 1 dL_sync_0 rfl rfl ?_
  refine am_iconst (v := 0) dL_sync_1 (by decide) ?_
  refine am_aload_n 0 dL_sync_2 rfl rfl ?_
  refine kX_B_sync dL_sync_3 (am_tw kw_581 rfl) (Nat.le_of_ble_eq_true rfl) ⟨Nat.le_of_ble_eq_true rfl, Nat.le_of_ble_eq_true rfl⟩ ⟨Nat.le_of_ble_eq_true rfl, Nat.le_of_ble_eq_true rfl⟩ hlt h (fun E I5 J6 h => ?_) (fun r3 I1 J2 h => ?_)
  · rcases h with ⟨rfl, h⟩
    · refine am_catch (name := "java/lang/IllegalStateException") [] (0, 8, 11, 15) [] rfl (fun z hz => nomatch hz) rfl (by decide) (am_tw kw_345 rfl) (am_tn kw_229 rfl) (fun q9 => ?_)
      refine am_astore_n (L2 := [(2, .ref q9), (0, .ref (ad 0)), (1, .ref (ad 45))]) dL_sync_11 rfl (Nat.le_of_ble_eq_true rfl) rfl ?_
      refine am_iconst (v := 1) dL_sync_12 (by decide) ?_
      exact am_iret dL_sync_13 rfl (Nat.le_of_ble_eq_true rfl) (Nat.le_of_ble_eq_true rfl) ⟨_, _, _, rfl, rfl, h⟩
  · refine am_i2l dL_sync_6 ?_
    obtain ⟨hi4, h⟩ := h
    refine st_45 hi4 dL_sync_7 ?_
    refine am_goto 14 dL_sync_8 (by decide) ?_
    refine am_iconst (v := 0) dL_sync_14 (by decide) ?_
    exact am_iret dL_sync_15 rfl (Nat.le_of_ble_eq_true rfl) (Nat.le_of_ble_eq_true rfl) ⟨_, _, _, rfl, rfl, h⟩
section
variable {l : Launch} {D : va_G} {aC : Nat → ClassId} {ad : Nat → Nat} {own : String} {cc : ByteArray} {nL : Nat} {ret : Option FieldType} {ini : Bool} {tb : List (Nat × Nat × Nat × Nat)} {G : State → (Nat → Prop) → Prop} {rm : Room} {mc ms k n pc idx : Nat} {L : List (Nat × Value)} {st rest : List Value} {I : am_MI} {J : am_MJ} {Q : Option Value → va_W → Prop} {X : String → va_W → Prop}
theorem kH_L_sync {K : Int32 → am_MI → am_MJ → Prop} {X1 : String → am_MI → am_MJ → Prop} (hd : decode cc pc = .ok (.invokestatic idx, 3)) (hlink : Cond.methodLink own idx yL_sync ∈ am_TW) (hcat : (rest.map fun v => v.category).sum ≤ 8) (hR : 13 + 1 ≤ rm.frames ∧ 8 + (3 + 11) + 38 * 13 ≤ rm.locals) (hk : k + 2 ≤ rm.cells ∧ n + 12 ≤ rm.slots) (hm : k + 1 ≤ mc ∧ n + 6 ≤ ms) (hlt : l.stackTraces = false) (h : w_L_sync I J K X1) (kk : ∀ (r : Int32) (I1 : am_MI) (J1 : am_MJ), K r I1 J1 → am l D aC own cc nL ret ini [] G rm mc ms (k + 1) (n + 6) (pc + 3) L (.int r :: rest) (am_w ad aC I1 J1) Q (am_lx ad aC X1)) : am l D aC own cc nL ret ini [] G rm mc ms k n pc L (.ref (ad 45) :: .ref (ad 0) :: rest) (am_w ad aC I J) Q (am_lx ad aC X1) := by
  refine am_callSH (As := [.ref (ad 0), .ref (ad 45)]) (N9 := 2) (t_L_sync hlt h) hd rfl hlink (am_tw kw_580 rfl) (am_tw kw_579 rfl) (am_tw kw_0 rfl) (by decide +kernel) rfl hcat ⟨rfl, rfl⟩ hR hk (fun E ws1 hx => am_out (fun x hx => nomatch hx) (Nat.add_le_add_right hm.1 1) (Nat.add_le_add_right hm.2 6) hx) ?_
  intro v ws1 hq
  obtain ⟨r, I1, J1, rfl, rfl, hq⟩ := hq
  exact kk r I1 J1 hq
end

def w_L_append (a1 : Int32) (a2 : Int32) (I : am_MI) (J : am_MJ) (Q : Int32 → am_MI → am_MJ → Prop) (X : String → am_MI → am_MJ → Prop) : Prop :=
  w_B_append a1 a2 I J (fun (r3 : Int32) (I1 : am_MI) (J2 : am_MJ) => vp_in (0 : Int32) 1 ∧ (Q 0 I1 (am_uj J2 45 (0 : Int32).toNatClampNeg r3.toInt64))) (fun (E : String) (I5 : am_MI) (J6 : am_MJ) => (E = "java/lang/IllegalStateException" ∧ (Q 1 I5 J6)) ∨ (E = "java/lang/IllegalArgumentException" ∧ (Q 2 I5 J6)) ∨ (E = "java/lang/UnsupportedOperationException" ∧ (Q 3 I5 J6)))
set_option maxRecDepth 20000 in
theorem t_L_append {l : Launch} {D : va_G} {aC : Nat → ClassId} {ad : Nat → Nat} (hlt : l.stackTraces = false) {a1 : Int32} {a2 : Int32} {I : am_MI} {J : am_MJ} {Q} {X} (h : w_L_append a1 a2 I J Q X) : am_c l D aC yL_append (.codeWith yL_append cL_append 5 (some .int) [(0, 10, 13, 15), (0, 10, 17, 13), (0, 10, 21, 25)]) (am_rw 14) 1 6 [.ref (ad 0), .int a1, .int a2, .ref (ad 45)] (am_w ad aC I J) (am_li ad aC Q) (am_lx ad aC X) := by
  unfold w_L_append at h
  refine am_ofH hlt (by decide +kernel) (Nat.le_of_ble_eq_true rfl) ?_
  show am l D aC "BubbleBoxLaw" cL_append 5 (some .int) false [(0, 10, 13, 15), (0, 10, 17, 13), (0, 10, 21, 25)] am_G0 (am_rw 14) 1 6 0 0 0 [(0, .ref (ad 0)), (1, .int a1), (2, .int a2), (3, .ref (ad 45))] [] (am_w ad aC I J) (am_li ad aC Q) (am_lx ad aC X)
  refine am_aload_n 3 dL_append_0 rfl rfl ?_
  refine am_iconst (v := 0) dL_append_1 (by decide) ?_
  refine am_aload_n 0 dL_append_2 rfl rfl ?_
  refine am_iload_n 1 dL_append_3 rfl rfl ?_
  refine am_iload_n 2 dL_append_4 rfl rfl ?_
  refine kX_B_append dL_append_5 (am_tw kw_471 rfl) (Nat.le_of_ble_eq_true rfl) ⟨Nat.le_of_ble_eq_true rfl, Nat.le_of_ble_eq_true rfl⟩ ⟨Nat.le_of_ble_eq_true rfl, Nat.le_of_ble_eq_true rfl⟩ hlt h (fun E I5 J6 h => ?_) (fun r3 I1 J2 h => ?_)
  · rcases h with ⟨rfl, h⟩ | ⟨rfl, h⟩ | ⟨rfl, h⟩
    · refine am_catch (name := "java/lang/IllegalStateException") [] (0, 10, 13, 15) [(0, 10, 17, 13), (0, 10, 21, 25)] rfl (fun z hz => nomatch hz) rfl (by decide) (am_tw kw_345 rfl) (am_tn kw_229 rfl) (fun q9 => ?_)
      refine am_astore (L2 := [(4, .ref q9), (0, .ref (ad 0)), (1, .int a1), (2, .int a2), (3, .ref (ad 45))]) dL_append_13 (Nat.le_of_ble_eq_true rfl) rfl ?_
      refine am_iconst (v := 1) dL_append_15 (by decide) ?_
      exact am_iret dL_append_16 rfl (Nat.le_of_ble_eq_true rfl) (Nat.le_of_ble_eq_true rfl) ⟨_, _, _, rfl, rfl, h⟩
    · refine am_catch (name := "java/lang/IllegalArgumentException") [(0, 10, 13, 15)] (0, 10, 17, 13) [(0, 10, 21, 25)] rfl (List.forall_mem_cons.mpr ⟨⟨rfl, "java/lang/IllegalStateException", (am_tw kw_345 rfl), by decide +kernel⟩, (fun z hz => nomatch hz)⟩) rfl (by decide) (am_tw kw_344 rfl) (am_tn kw_352 rfl) (fun q9 => ?_)
      refine am_astore (L2 := [(4, .ref q9), (0, .ref (ad 0)), (1, .int a1), (2, .int a2), (3, .ref (ad 45))]) dL_append_17 (Nat.le_of_ble_eq_true rfl) rfl ?_
      refine am_iconst (v := 2) dL_append_19 (by decide) ?_
      exact am_iret dL_append_20 rfl (Nat.le_of_ble_eq_true rfl) (Nat.le_of_ble_eq_true rfl) ⟨_, _, _, rfl, rfl, h⟩
    · refine am_catch (name := "java/lang/UnsupportedOperationException") [(0, 10, 13, 15), (0, 10, 17, 13)] (0, 10, 21, 25) [] rfl (List.forall_mem_cons.mpr ⟨⟨rfl, "java/lang/IllegalStateException", (am_tw kw_345 rfl), by decide +kernel⟩, (List.forall_mem_cons.mpr ⟨⟨rfl, "java/lang/IllegalArgumentException", (am_tw kw_344 rfl), by decide +kernel⟩, (fun z hz => nomatch hz)⟩)⟩) rfl (by decide) (am_tw kw_418 rfl) (am_tn kw_435 rfl) (fun q9 => ?_)
      refine am_astore (L2 := [(4, .ref q9), (0, .ref (ad 0)), (1, .int a1), (2, .int a2), (3, .ref (ad 45))]) dL_append_21 (Nat.le_of_ble_eq_true rfl) rfl ?_
      refine am_iconst (v := 3) dL_append_23 (by decide) ?_
      exact am_iret dL_append_24 rfl (Nat.le_of_ble_eq_true rfl) (Nat.le_of_ble_eq_true rfl) ⟨_, _, _, rfl, rfl, h⟩
  · refine am_i2l dL_append_8 ?_
    obtain ⟨hi4, h⟩ := h
    refine st_45 hi4 dL_append_9 ?_
    refine am_goto 25 dL_append_10 (by decide) ?_
    refine am_iconst (v := 0) dL_append_25 (by decide) ?_
    exact am_iret dL_append_26 rfl (Nat.le_of_ble_eq_true rfl) (Nat.le_of_ble_eq_true rfl) ⟨_, _, _, rfl, rfl, h⟩
section
variable {l : Launch} {D : va_G} {aC : Nat → ClassId} {ad : Nat → Nat} {own : String} {cc : ByteArray} {nL : Nat} {ret : Option FieldType} {ini : Bool} {tb : List (Nat × Nat × Nat × Nat)} {G : State → (Nat → Prop) → Prop} {rm : Room} {mc ms k n pc idx : Nat} {L : List (Nat × Value)} {st rest : List Value} {I : am_MI} {J : am_MJ} {Q : Option Value → va_W → Prop} {X : String → va_W → Prop}
theorem kH_L_append {a1 : Int32} {a2 : Int32} {K : Int32 → am_MI → am_MJ → Prop} {X1 : String → am_MI → am_MJ → Prop} (hd : decode cc pc = .ok (.invokestatic idx, 3)) (hlink : Cond.methodLink own idx yL_append ∈ am_TW) (hcat : (rest.map fun v => v.category).sum ≤ 8) (hR : 14 + 1 ≤ rm.frames ∧ 8 + (5 + 11) + 38 * 14 ≤ rm.locals) (hk : k + 2 ≤ rm.cells ∧ n + 12 ≤ rm.slots) (hm : k + 1 ≤ mc ∧ n + 6 ≤ ms) (hlt : l.stackTraces = false) (h : w_L_append a1 a2 I J K X1) (kk : ∀ (r : Int32) (I1 : am_MI) (J1 : am_MJ), K r I1 J1 → am l D aC own cc nL ret ini [] G rm mc ms (k + 1) (n + 6) (pc + 3) L (.int r :: rest) (am_w ad aC I1 J1) Q (am_lx ad aC X1)) : am l D aC own cc nL ret ini [] G rm mc ms k n pc L (.ref (ad 45) :: .int a2 :: .int a1 :: .ref (ad 0) :: rest) (am_w ad aC I J) Q (am_lx ad aC X1) := by
  refine am_callSH (As := [.ref (ad 0), .int a1, .int a2, .ref (ad 45)]) (N9 := 4) (t_L_append hlt h) hd rfl hlink (am_tw kw_470 rfl) (am_tw kw_469 rfl) (am_tw kw_0 rfl) (by decide +kernel) rfl hcat ⟨rfl, rfl⟩ hR hk (fun E ws1 hx => am_out (fun x hx => nomatch hx) (Nat.add_le_add_right hm.1 1) (Nat.add_le_add_right hm.2 6) hx) ?_
  intro v ws1 hq
  obtain ⟨r, I1, J1, rfl, rfl, hq⟩ := hq
  exact kk r I1 J1 hq
end
