
def w_B_pagesFor (a0 : Int32) (I : am_MI) (J : am_MJ) (Q : Int32 → am_MI → am_MJ → Prop) (X : String → am_MI → am_MJ → Prop) : Prop :=
  Q (((a0 + (8 : Int32)) - (1 : Int32)) / (8 : Int32)) I J
set_option maxRecDepth 20000 in
theorem t_B_pagesFor {l : Launch} {D : va_G} {aC : Nat → ClassId} {ad : Nat → Nat} (hlt : l.stackTraces = false) {a0 : Int32} {I : am_MI} {J : am_MJ} {Q} {X} (h : w_B_pagesFor a0 I J Q X) : am_c l D aC yB_pagesFor (.code yB_pagesFor cB_pagesFor 1 (some .int)) (am_rm 1) 0 0 [.int a0] (am_w ad aC I J) (am_li ad aC Q) (am_lx ad aC X) := by
  unfold w_B_pagesFor at h
  refine am_of (ini := false) hlt (by decide +kernel) (Nat.le_of_ble_eq_true rfl) (fun h => nomatch h) ?_
  show am l D aC "BubbleBox" cB_pagesFor 1 (some .int) false [] am_G0 (am_rm 1) 0 0 0 0 0 [(0, .int a0)] [] (am_w ad aC I J) (am_li ad aC Q) (am_lx ad aC X)
  refine am_iload_n 0 dB_pagesFor_0 rfl rfl ?_
  refine am_bipush (v := 8) dB_pagesFor_1 (by decide) ?_
  refine am_iadd dB_pagesFor_3 ?_
  refine am_iconst (v := 1) dB_pagesFor_4 (by decide) ?_
  refine am_isub dB_pagesFor_5 ?_
  refine am_bipush (v := 8) dB_pagesFor_6 (by decide) ?_
  refine am_idiv dB_pagesFor_8 (by decide) ?_
  exact am_iret dB_pagesFor_9 rfl (Nat.le_of_ble_eq_true rfl) (Nat.le_of_ble_eq_true rfl) ⟨_, _, _, rfl, rfl, h⟩
section
variable {l : Launch} {D : va_G} {aC : Nat → ClassId} {ad : Nat → Nat} {own : String} {cc : ByteArray} {nL : Nat} {ret : Option FieldType} {ini : Bool} {tb : List (Nat × Nat × Nat × Nat)} {G : State → (Nat → Prop) → Prop} {rm : Room} {mc ms k n pc idx : Nat} {L : List (Nat × Value)} {st rest : List Value} {I : am_MI} {J : am_MJ} {Q : Option Value → va_W → Prop} {X : String → va_W → Prop}
theorem kS_B_pagesFor {a0 : Int32} {K : Int32 → am_MI → am_MJ → Prop} {X1 : String → am_MI → am_MJ → Prop} (hd : decode cc pc = .ok (.invokestatic idx, 3)) (hlink : Cond.methodLink own idx yB_pagesFor ∈ am_TW) (hcat : (rest.map fun v => v.category).sum ≤ 8) (hR : 1 + 1 ≤ rm.frames ∧ 8 + (1 + 11) + 38 * 1 ≤ rm.locals) (hk : k + 1 ≤ rm.cells ∧ n + 6 ≤ rm.slots) (hm : k ≤ mc ∧ n ≤ ms) (hlt : l.stackTraces = false) (h : w_B_pagesFor a0 I J K X1) (kk : ∀ (r : Int32) (I1 : am_MI) (J1 : am_MJ), K r I1 J1 → am l D aC own cc nL ret ini [] G rm mc ms k n (pc + 3) L (.int r :: rest) (am_w ad aC I1 J1) Q (am_lx ad aC X1)) : am l D aC own cc nL ret ini [] G rm mc ms k n pc L (.int a0 :: rest) (am_w ad aC I J) Q (am_lx ad aC X1) := by
  refine am_callS (As := [.int a0]) (N9 := 1) (t_B_pagesFor hlt h) hd rfl hlink (am_tw kw_336 rfl) (am_tw kw_335 rfl) (am_tw kw_1 rfl) (by decide +kernel) rfl hcat ⟨rfl, rfl⟩ hR hk (fun E ws1 hx => am_out (fun x hx => nomatch hx) (Nat.add_le_add_right hm.1 1) (Nat.add_le_add_right hm.2 6) hx) ?_
  intro v ws1 hq
  obtain ⟨r, I1, J1, rfl, rfl, hq⟩ := hq
  exact kk r I1 J1 hq
end
section
variable {l : Launch} {D : va_G} {aC : Nat → ClassId} {ad : Nat → Nat} {own : String} {cc : ByteArray} {nL : Nat} {ret : Option FieldType} {ini : Bool} {tb : List (Nat × Nat × Nat × Nat)} {G : State → (Nat → Prop) → Prop} {rm : Room} {mc ms k n pc idx : Nat} {L : List (Nat × Value)} {st rest : List Value} {I : am_MI} {J : am_MJ} {Q : Option Value → va_W → Prop} {X : String → va_W → Prop}
theorem kSN_B_pagesFor {a0 : Int32} {K : Int32 → am_MI → am_MJ → Prop} (hd : decode cc pc = .ok (.invokestatic idx, 3)) (hlink : Cond.methodLinkNest own idx yB_pagesFor "BubbleBox" ∈ am_TN) (hcat : (rest.map fun v => v.category).sum ≤ 8) (hR : 1 + 1 ≤ rm.frames ∧ 8 + (1 + 11) + 38 * 1 ≤ rm.locals) (hk : k + 1 ≤ rm.cells ∧ n + 6 ≤ rm.slots) (hm : k ≤ mc ∧ n ≤ ms) (hlt : l.stackTraces = false) (h : w_B_pagesFor a0 I J K (fun _ _ _ => False)) (kk : ∀ (r : Int32) (I1 : am_MI) (J1 : am_MJ), K r I1 J1 → am l D aC own cc nL ret ini tb G rm mc ms k n (pc + 3) L (.int r :: rest) (am_w ad aC I1 J1) Q X) : am l D aC own cc nL ret ini tb G rm mc ms k n pc L (.int a0 :: rest) (am_w ad aC I J) Q X := by
  refine am_callSN (As := [.int a0]) (N9 := 1) (am_cF (t_B_pagesFor hlt h)) hd rfl hlink (am_tw kw_336 rfl) (am_tw kw_335 rfl) (am_tw kw_1 rfl) (by decide +kernel) rfl hcat ⟨rfl, rfl⟩ hR hk ?_
  intro v ws1 hq
  obtain ⟨r, I1, J1, rfl, rfl, hq⟩ := hq
  exact kk r I1 J1 hq
end
def w_C_clearPages_2 (x1 : Int32) (I : am_MI) (J : am_MJ) (Q : am_MI → am_MJ → Prop) (X : String → am_MI → am_MJ → Prop) : Prop :=
  ∀ P2 : Int32 → am_MI → am_MJ → Prop, (∀ (x1 : Int32) (I : am_MI) (J : am_MJ), (((101 : Int32) ≤ x1 → (Q I J)) ∧ (¬ ((101 : Int32) ≤ x1) → (vp_in x1 101 ∧ (P2 (x1 + 1) I (am_uj J 2 x1.toNatClampNeg (0 : Int64)))))) → P2 x1 I J) → P2 x1 I J
set_option maxRecDepth 20000 in
theorem t_C_clearPages_2 {l : Launch} {D : va_G} {aC : Nat → ClassId} {ad : Nat → Nat} (hlt : l.stackTraces = false) {x1 : Int32} {I : am_MI} {J : am_MJ} {Q} {X} (h : w_C_clearPages_2 x1 I J Q X) : am l D aC "BubbleBox$Chip" cC_clearPages 2 none false [] am_G0 (am_rm 1) 0 0 0 0 2 [(0, .ref (ad 1)), (1, .int x1)] [] (am_w ad aC I J) (am_lv ad aC Q) (am_lx ad aC X) := by
  unfold w_C_clearPages_2 at h
  refine h (fun (x1 : Int32) (I : am_MI) (J : am_MJ) => am l D aC "BubbleBox$Chip" cC_clearPages 2 none false [] am_G0 (am_rm 1) 0 0 0 0 2 [(0, .ref (ad 1)), (1, .int x1)] [] (am_w ad aC I J) (am_lv ad aC Q) (am_lx ad aC X)) (fun x1 I J h => ?_)
  refine am_iload_n 1 dC_clearPages_2 rfl rfl ?_
  refine am_bipush (v := 101) dC_clearPages_3 (by decide) ?_
  refine am_icmp_ge 21 dC_clearPages_5 (by decide) (fun hc1 => ?_) (fun hc1 => ?_)
  · replace h := h.1 hc1
    exact am_vret dC_clearPages_21 rfl (Nat.le_of_ble_eq_true rfl) (Nat.le_of_ble_eq_true rfl) ⟨_, _, rfl, rfl, h⟩
  · replace h := h.2 hc1
    refine am_aload_n 0 dC_clearPages_8 rfl rfl ?_
    refine go_C_pages dC_clearPages_9 (am_tw kw_29 rfl) ?_
    refine am_iload_n 1 dC_clearPages_12 rfl rfl ?_
    refine am_lconst (v := 0) dC_clearPages_13 (by decide) ?_
    obtain ⟨hi2, h⟩ := h
    refine st_2 hi2 dC_clearPages_14 ?_
    refine am_iinc (j := 1) (v := x1 + 1) (L2 := [(1, .int (x1 + 1)), (0, .ref (ad 1))]) dC_clearPages_15 rfl (congrArg (x1 + ·) (by decide : Int32.ofInt (1) = 1)) (Nat.le_of_ble_eq_true rfl) rfl ?_
    refine am_goto 2 dC_clearPages_18 (by decide) ?_
    exact am_sub [1, 0] rfl h

def w_C_clearPages (I : am_MI) (J : am_MJ) (Q : am_MI → am_MJ → Prop) (X : String → am_MI → am_MJ → Prop) : Prop :=
  w_C_clearPages_2 (0 : Int32) I J Q X
set_option maxRecDepth 20000 in
theorem t_C_clearPages {l : Launch} {D : va_G} {aC : Nat → ClassId} {ad : Nat → Nat} (hlt : l.stackTraces = false) {I : am_MI} {J : am_MJ} {Q} {X} (h : w_C_clearPages I J Q X) : am_c l D aC yC_clearPages (.code yC_clearPages cC_clearPages 2 none) (am_rm 1) 0 0 [.ref (ad 1)] (am_w ad aC I J) (am_lv ad aC Q) (am_lx ad aC X) := by
  unfold w_C_clearPages at h
  refine am_of (ini := false) hlt (by decide +kernel) (Nat.le_of_ble_eq_true rfl) (fun h => nomatch h) ?_
  show am l D aC "BubbleBox$Chip" cC_clearPages 2 none false [] am_G0 (am_rm 1) 0 0 0 0 0 [(0, .ref (ad 1))] [] (am_w ad aC I J) (am_lv ad aC Q) (am_lx ad aC X)
  refine am_iconst (v := 0) dC_clearPages_0 (by decide) ?_
  refine am_istore_n (L2 := [(1, .int 0), (0, .ref (ad 1))]) dC_clearPages_1 rfl (Nat.le_of_ble_eq_true rfl) rfl ?_
  exact am_sub [1, 0] rfl (t_C_clearPages_2 hlt h)
section
variable {l : Launch} {D : va_G} {aC : Nat → ClassId} {ad : Nat → Nat} {own : String} {cc : ByteArray} {nL : Nat} {ret : Option FieldType} {ini : Bool} {tb : List (Nat × Nat × Nat × Nat)} {G : State → (Nat → Prop) → Prop} {rm : Room} {mc ms k n pc idx : Nat} {L : List (Nat × Value)} {st rest : List Value} {I : am_MI} {J : am_MJ} {Q : Option Value → va_W → Prop} {X : String → va_W → Prop}
theorem kVN_C_clearPages {K : am_MI → am_MJ → Prop} (hd : decode cc pc = .ok (.invokevirtual idx, 3)) (hlink : Cond.methodLinkNest own idx yC_clearPages "BubbleBox" ∈ am_TN) (hcat : (rest.map fun v => v.category).sum ≤ 8) (hR : 1 + 1 ≤ rm.frames ∧ 8 + (2 + 11) + 38 * 1 ≤ rm.locals) (hk : k + 1 ≤ rm.cells ∧ n + 6 ≤ rm.slots) (hm : k ≤ mc ∧ n ≤ ms) (hlt : l.stackTraces = false) (h : w_C_clearPages I J K (fun _ _ _ => False)) (kk : ∀ (I1 : am_MI) (J1 : am_MJ), K I1 J1 → am l D aC own cc nL ret ini tb G rm mc ms k n (pc + 3) L rest (am_w ad aC I1 J1) Q X) : am l D aC own cc nL ret ini tb G rm mc ms k n pc L (.ref (ad 1) :: rest) (am_w ad aC I J) Q X := by
  refine am_callVN 1 1 (As := []) (N9 := 0) (am_cF (t_C_clearPages hlt h)) hd rfl (am_w_at ad aC I J (by omega)) rfl hlink (am_tw kw_384 rfl) (am_tw kw_383 rfl) ks_20 (am_tw kw_2 rfl) (by decide +kernel) rfl hcat ⟨rfl, rfl⟩ hR hk ?_
  intro v ws1 hq
  obtain ⟨I1, J1, rfl, rfl, hq⟩ := hq
  exact kk I1 J1 hq
end
def w_C_goodLoops_4 (x1 : Int32) (x2 : Int32) (I : am_MI) (J : am_MJ) (Q : Int32 → am_MI → am_MJ → Prop) (X : String → am_MI → am_MJ → Prop) : Prop :=
  ∀ P4 : Int32 → Int32 → am_MI → am_MJ → Prop, (∀ (x1 : Int32) (x2 : Int32) (I : am_MI) (J : am_MJ), (((69 : Int32) ≤ x2 → (Q x1 I J)) ∧ (¬ ((69 : Int32) ≤ x2) → (vp_in x2 69 ∧ ((¬ (I 3 x2.toNatClampNeg) = 0 → (P4 x1 (x2 + 1) I J)) ∧ ((I 3 x2.toNatClampNeg) = 0 → (P4 (x1 + 1) (x2 + 1) I J)))))) → P4 x1 x2 I J) → P4 x1 x2 I J
set_option maxRecDepth 20000 in
theorem t_C_goodLoops_4 {l : Launch} {D : va_G} {aC : Nat → ClassId} {ad : Nat → Nat} (hlt : l.stackTraces = false) {x1 : Int32} {x2 : Int32} {I : am_MI} {J : am_MJ} {Q} {X} (h : w_C_goodLoops_4 x1 x2 I J Q X) : am l D aC "BubbleBox$Chip" cC_goodLoops 3 (some .int) false [] am_G0 (am_rm 1) 0 0 0 0 4 [(0, .ref (ad 1)), (1, .int x1), (2, .int x2)] [] (am_w ad aC I J) (am_li ad aC Q) (am_lx ad aC X) := by
  unfold w_C_goodLoops_4 at h
  refine h (fun (x1 : Int32) (x2 : Int32) (I : am_MI) (J : am_MJ) => am l D aC "BubbleBox$Chip" cC_goodLoops 3 (some .int) false [] am_G0 (am_rm 1) 0 0 0 0 4 [(0, .ref (ad 1)), (1, .int x1), (2, .int x2)] [] (am_w ad aC I J) (am_li ad aC Q) (am_lx ad aC X)) (fun x1 x2 I J h => ?_)
  refine am_iload_n 2 dC_goodLoops_4 rfl rfl ?_
  refine am_bipush (v := 69) dC_goodLoops_5 (by decide) ?_
  refine am_icmp_ge 28 dC_goodLoops_7 (by decide) (fun hc1 => ?_) (fun hc1 => ?_)
  · replace h := h.1 hc1
    refine am_iload_n 1 dC_goodLoops_28 rfl rfl ?_
    exact am_iret dC_goodLoops_29 rfl (Nat.le_of_ble_eq_true rfl) (Nat.le_of_ble_eq_true rfl) ⟨_, _, _, rfl, rfl, h⟩
  · replace h := h.2 hc1
    refine am_aload_n 0 dC_goodLoops_10 rfl rfl ?_
    refine go_C_bad dC_goodLoops_11 (am_tw kw_31 rfl) ?_
    refine am_iload_n 2 dC_goodLoops_14 rfl rfl ?_
    obtain ⟨hi2, h⟩ := h
    refine ld_3 hi2 dC_goodLoops_15 ?_
    refine am_if_ne 22 dC_goodLoops_16 (by decide) (fun hc3 => ?_) (fun hc3 => ?_)
    · replace h := h.1 hc3
      refine am_iinc (j := 2) (v := x2 + 1) (L2 := [(2, .int (x2 + 1)), (0, .ref (ad 1)), (1, .int x1)]) dC_goodLoops_22 rfl (congrArg (x2 + ·) (by decide : Int32.ofInt (1) = 1)) (Nat.le_of_ble_eq_true rfl) rfl ?_
      refine am_goto 4 dC_goodLoops_25 (by decide) ?_
      exact am_sub [1, 2, 0] rfl h
    · replace h := h.2 hc3
      refine am_iinc (j := 1) (v := x1 + 1) (L2 := [(1, .int (x1 + 1)), (0, .ref (ad 1)), (2, .int x2)]) dC_goodLoops_19 rfl (congrArg (x1 + ·) (by decide : Int32.ofInt (1) = 1)) (Nat.le_of_ble_eq_true rfl) rfl ?_
      refine am_iinc (j := 2) (v := x2 + 1) (L2 := [(2, .int (x2 + 1)), (1, .int (x1 + 1)), (0, .ref (ad 1))]) dC_goodLoops_22 rfl (congrArg (x2 + ·) (by decide : Int32.ofInt (1) = 1)) (Nat.le_of_ble_eq_true rfl) rfl ?_
      refine am_goto 4 dC_goodLoops_25 (by decide) ?_
      exact am_sub [2, 1, 0] rfl h

def w_C_goodLoops (I : am_MI) (J : am_MJ) (Q : Int32 → am_MI → am_MJ → Prop) (X : String → am_MI → am_MJ → Prop) : Prop :=
  w_C_goodLoops_4 (0 : Int32) (0 : Int32) I J Q X
set_option maxRecDepth 20000 in
theorem t_C_goodLoops {l : Launch} {D : va_G} {aC : Nat → ClassId} {ad : Nat → Nat} (hlt : l.stackTraces = false) {I : am_MI} {J : am_MJ} {Q} {X} (h : w_C_goodLoops I J Q X) : am_c l D aC yC_goodLoops (.code yC_goodLoops cC_goodLoops 3 (some .int)) (am_rm 1) 0 0 [.ref (ad 1)] (am_w ad aC I J) (am_li ad aC Q) (am_lx ad aC X) := by
  unfold w_C_goodLoops at h
  refine am_of (ini := false) hlt (by decide +kernel) (Nat.le_of_ble_eq_true rfl) (fun h => nomatch h) ?_
  show am l D aC "BubbleBox$Chip" cC_goodLoops 3 (some .int) false [] am_G0 (am_rm 1) 0 0 0 0 0 [(0, .ref (ad 1))] [] (am_w ad aC I J) (am_li ad aC Q) (am_lx ad aC X)
  refine am_iconst (v := 0) dC_goodLoops_0 (by decide) ?_
  refine am_istore_n (L2 := [(1, .int 0), (0, .ref (ad 1))]) dC_goodLoops_1 rfl (Nat.le_of_ble_eq_true rfl) rfl ?_
  refine am_iconst (v := 0) dC_goodLoops_2 (by decide) ?_
  refine am_istore_n (L2 := [(2, .int 0), (1, .int 0), (0, .ref (ad 1))]) dC_goodLoops_3 rfl (Nat.le_of_ble_eq_true rfl) rfl ?_
  exact am_sub [2, 1, 0] rfl (t_C_goodLoops_4 hlt h)
section
variable {l : Launch} {D : va_G} {aC : Nat → ClassId} {ad : Nat → Nat} {own : String} {cc : ByteArray} {nL : Nat} {ret : Option FieldType} {ini : Bool} {tb : List (Nat × Nat × Nat × Nat)} {G : State → (Nat → Prop) → Prop} {rm : Room} {mc ms k n pc idx : Nat} {L : List (Nat × Value)} {st rest : List Value} {I : am_MI} {J : am_MJ} {Q : Option Value → va_W → Prop} {X : String → va_W → Prop}
theorem kVN_C_goodLoops {K : Int32 → am_MI → am_MJ → Prop} (hd : decode cc pc = .ok (.invokevirtual idx, 3)) (hlink : Cond.methodLinkNest own idx yC_goodLoops "BubbleBox" ∈ am_TN) (hcat : (rest.map fun v => v.category).sum ≤ 8) (hR : 1 + 1 ≤ rm.frames ∧ 8 + (3 + 11) + 38 * 1 ≤ rm.locals) (hk : k + 1 ≤ rm.cells ∧ n + 6 ≤ rm.slots) (hm : k ≤ mc ∧ n ≤ ms) (hlt : l.stackTraces = false) (h : w_C_goodLoops I J K (fun _ _ _ => False)) (kk : ∀ (r : Int32) (I1 : am_MI) (J1 : am_MJ), K r I1 J1 → am l D aC own cc nL ret ini tb G rm mc ms k n (pc + 3) L (.int r :: rest) (am_w ad aC I1 J1) Q X) : am l D aC own cc nL ret ini tb G rm mc ms k n pc L (.ref (ad 1) :: rest) (am_w ad aC I J) Q X := by
  refine am_callVN 1 1 (As := []) (N9 := 0) (am_cF (t_C_goodLoops hlt h)) hd rfl (am_w_at ad aC I J (by omega)) rfl hlink (am_tw kw_379 rfl) (am_tw kw_378 rfl) ks_19 (am_tw kw_2 rfl) (by decide +kernel) rfl hcat ⟨rfl, rfl⟩ hR hk ?_
  intro v ws1 hq
  obtain ⟨r, I1, J1, rfl, rfl, hq⟩ := hq
  exact kk r I1 J1 hq
end

def w_C_stepsTo (a0 : Int32) (I : am_MI) (J : am_MJ) (Q : Int32 → am_MI → am_MJ → Prop) (X : String → am_MI → am_MJ → Prop) : Prop :=
  (a0 < (I 1 3) → (Q ((a0 - (I 1 3)) + (101 : Int32)) I J)) ∧ (¬ (a0 < (I 1 3)) → (Q (a0 - (I 1 3)) I J))
set_option maxRecDepth 20000 in
theorem t_C_stepsTo {l : Launch} {D : va_G} {aC : Nat → ClassId} {ad : Nat → Nat} (hlt : l.stackTraces = false) {a0 : Int32} {I : am_MI} {J : am_MJ} {Q} {X} (h : w_C_stepsTo a0 I J Q X) : am_c l D aC yC_stepsTo (.code yC_stepsTo cC_stepsTo 2 (some .int)) (am_rm 1) 0 0 [.ref (ad 1), .int a0] (am_w ad aC I J) (am_li ad aC Q) (am_lx ad aC X) := by
  unfold w_C_stepsTo at h
  refine am_of (ini := false) hlt (by decide +kernel) (Nat.le_of_ble_eq_true rfl) (fun h => nomatch h) ?_
  show am l D aC "BubbleBox$Chip" cC_stepsTo 2 (some .int) false [] am_G0 (am_rm 1) 0 0 0 0 0 [(0, .ref (ad 1)), (1, .int a0)] [] (am_w ad aC I J) (am_li ad aC Q) (am_lx ad aC X)
  refine am_iload_n 1 dC_stepsTo_0 rfl rfl ?_
  refine am_aload_n 0 dC_stepsTo_1 rfl rfl ?_
  refine go_C_position dC_stepsTo_2 (am_tw kw_35 rfl) ?_
  refine am_icmp_lt 17 dC_stepsTo_5 (by decide) (fun hc1 => ?_) (fun hc1 => ?_)
  · replace h := h.1 hc1
    refine am_iload_n 1 dC_stepsTo_17 rfl rfl ?_
    refine am_aload_n 0 dC_stepsTo_18 rfl rfl ?_
    refine go_C_position dC_stepsTo_19 (am_tw kw_35 rfl) ?_
    refine am_isub dC_stepsTo_22 ?_
    refine am_bipush (v := 101) dC_stepsTo_23 (by decide) ?_
    refine am_iadd dC_stepsTo_25 ?_
    exact am_iret dC_stepsTo_26 rfl (Nat.le_of_ble_eq_true rfl) (Nat.le_of_ble_eq_true rfl) ⟨_, _, _, rfl, rfl, h⟩
  · replace h := h.2 hc1
    refine am_iload_n 1 dC_stepsTo_8 rfl rfl ?_
    refine am_aload_n 0 dC_stepsTo_9 rfl rfl ?_
    refine go_C_position dC_stepsTo_10 (am_tw kw_35 rfl) ?_
    refine am_isub dC_stepsTo_13 ?_
    refine am_goto 26 dC_stepsTo_14 (by decide) ?_
    exact am_iret dC_stepsTo_26 rfl (Nat.le_of_ble_eq_true rfl) (Nat.le_of_ble_eq_true rfl) ⟨_, _, _, rfl, rfl, h⟩
section
variable {l : Launch} {D : va_G} {aC : Nat → ClassId} {ad : Nat → Nat} {own : String} {cc : ByteArray} {nL : Nat} {ret : Option FieldType} {ini : Bool} {tb : List (Nat × Nat × Nat × Nat)} {G : State → (Nat → Prop) → Prop} {rm : Room} {mc ms k n pc idx : Nat} {L : List (Nat × Value)} {st rest : List Value} {I : am_MI} {J : am_MJ} {Q : Option Value → va_W → Prop} {X : String → va_W → Prop}
theorem kV_C_stepsTo {a0 : Int32} {K : Int32 → am_MI → am_MJ → Prop} {X1 : String → am_MI → am_MJ → Prop} (hd : decode cc pc = .ok (.invokevirtual idx, 3)) (hlink : Cond.methodLink own idx yC_stepsTo ∈ am_TW) (hcat : (rest.map fun v => v.category).sum ≤ 8) (hR : 1 + 1 ≤ rm.frames ∧ 8 + (2 + 11) + 38 * 1 ≤ rm.locals) (hk : k + 1 ≤ rm.cells ∧ n + 6 ≤ rm.slots) (hm : k ≤ mc ∧ n ≤ ms) (hlt : l.stackTraces = false) (h : w_C_stepsTo a0 I J K X1) (kk : ∀ (r : Int32) (I1 : am_MI) (J1 : am_MJ), K r I1 J1 → am l D aC own cc nL ret ini [] G rm mc ms k n (pc + 3) L (.int r :: rest) (am_w ad aC I1 J1) Q (am_lx ad aC X1)) : am l D aC own cc nL ret ini [] G rm mc ms k n pc L (.int a0 :: .ref (ad 1) :: rest) (am_w ad aC I J) Q (am_lx ad aC X1) := by
  refine am_callV 1 1 (As := [.int a0]) (N9 := 1) (t_C_stepsTo hlt h) hd rfl (am_w_at ad aC I J (by omega)) rfl hlink (am_tw kw_303 rfl) (am_tw kw_302 rfl) ks_10 (am_tw kw_2 rfl) (by decide +kernel) rfl hcat ⟨rfl, rfl⟩ hR hk (fun E ws1 hx => am_out (fun x hx => nomatch hx) (Nat.add_le_add_right hm.1 1) (Nat.add_le_add_right hm.2 6) hx) ?_
  intro v ws1 hq
  obtain ⟨r, I1, J1, rfl, rfl, hq⟩ := hq
  exact kk r I1 J1 hq
end
section
variable {l : Launch} {D : va_G} {aC : Nat → ClassId} {ad : Nat → Nat} {own : String} {cc : ByteArray} {nL : Nat} {ret : Option FieldType} {ini : Bool} {tb : List (Nat × Nat × Nat × Nat)} {G : State → (Nat → Prop) → Prop} {rm : Room} {mc ms k n pc idx : Nat} {L : List (Nat × Value)} {st rest : List Value} {I : am_MI} {J : am_MJ} {Q : Option Value → va_W → Prop} {X : String → va_W → Prop}
theorem kVN_C_stepsTo {a0 : Int32} {K : Int32 → am_MI → am_MJ → Prop} (hd : decode cc pc = .ok (.invokevirtual idx, 3)) (hlink : Cond.methodLinkNest own idx yC_stepsTo "BubbleBox" ∈ am_TN) (hcat : (rest.map fun v => v.category).sum ≤ 8) (hR : 1 + 1 ≤ rm.frames ∧ 8 + (2 + 11) + 38 * 1 ≤ rm.locals) (hk : k + 1 ≤ rm.cells ∧ n + 6 ≤ rm.slots) (hm : k ≤ mc ∧ n ≤ ms) (hlt : l.stackTraces = false) (h : w_C_stepsTo a0 I J K (fun _ _ _ => False)) (kk : ∀ (r : Int32) (I1 : am_MI) (J1 : am_MJ), K r I1 J1 → am l D aC own cc nL ret ini tb G rm mc ms k n (pc + 3) L (.int r :: rest) (am_w ad aC I1 J1) Q X) : am l D aC own cc nL ret ini tb G rm mc ms k n pc L (.int a0 :: .ref (ad 1) :: rest) (am_w ad aC I J) Q X := by
  refine am_callVN 1 1 (As := [.int a0]) (N9 := 1) (am_cF (t_C_stepsTo hlt h)) hd rfl (am_w_at ad aC I J (by omega)) rfl hlink (am_tw kw_303 rfl) (am_tw kw_302 rfl) ks_10 (am_tw kw_2 rfl) (by decide +kernel) rfl hcat ⟨rfl, rfl⟩ hR hk ?_
  intro v ws1 hq
  obtain ⟨r, I1, J1, rfl, rfl, hq⟩ := hq
  exact kk r I1 J1 hq
end

def w_E_byteInWindow (e0 : Nat) (a0 : Int32) (I : am_MI) (J : am_MJ) (Q : Int32 → am_MI → am_MJ → Prop) (X : String → am_MI → am_MJ → Prop) : Prop :=
  Q (((((J (6 + e0) 4).toUInt64 >>> (((8 : Int32) * a0).toInt64.toUInt64 &&& Int64.toUInt64 63)).toInt64).toInt32) &&& (255 : Int32)) I J
set_option maxRecDepth 20000 in
theorem t_E_byteInWindow {l : Launch} {D : va_G} {aC : Nat → ClassId} {ad : Nat → Nat} (hlt : l.stackTraces = false) {e0 : Nat} {a0 : Int32} (he0 : e0 < 8) {I : am_MI} {J : am_MJ} {Q} {X} (h : w_E_byteInWindow e0 a0 I J Q X) : am_c l D aC yE_byteInWindow (.code yE_byteInWindow cE_byteInWindow 2 (some .int)) (am_rm 1) 0 0 [.ref (ad (6 + e0)), .int a0] (am_w ad aC I J) (am_li ad aC Q) (am_lx ad aC X) := by
  unfold w_E_byteInWindow at h
  refine am_of (ini := false) hlt (by decide +kernel) (Nat.le_of_ble_eq_true rfl) (fun h => nomatch h) ?_
  show am l D aC "BubbleBox$Entry" cE_byteInWindow 2 (some .int) false [] am_G0 (am_rm 1) 0 0 0 0 0 [(0, .ref (ad (6 + e0))), (1, .int a0)] [] (am_w ad aC I J) (am_li ad aC Q) (am_lx ad aC X)
  refine am_aload_n 0 dE_byteInWindow_0 rfl rfl ?_
  refine go_E_windowBits he0 dE_byteInWindow_1 (am_tw kw_75 rfl) ?_
  refine am_bipush (v := 8) dE_byteInWindow_4 (by decide) ?_
  refine am_iload_n 1 dE_byteInWindow_6 rfl rfl ?_
  refine am_imul dE_byteInWindow_7 ?_
  refine am_lushr dE_byteInWindow_8 ?_
  refine am_l2i dE_byteInWindow_9 ?_
  refine am_sipush (v := 255) dE_byteInWindow_10 (by decide) ?_
  refine am_iand dE_byteInWindow_13 ?_
  exact am_iret dE_byteInWindow_14 rfl (Nat.le_of_ble_eq_true rfl) (Nat.le_of_ble_eq_true rfl) ⟨_, _, _, rfl, rfl, h⟩
section
variable {l : Launch} {D : va_G} {aC : Nat → ClassId} {ad : Nat → Nat} {own : String} {cc : ByteArray} {nL : Nat} {ret : Option FieldType} {ini : Bool} {tb : List (Nat × Nat × Nat × Nat)} {G : State → (Nat → Prop) → Prop} {rm : Room} {mc ms k n pc idx : Nat} {L : List (Nat × Value)} {st rest : List Value} {I : am_MI} {J : am_MJ} {Q : Option Value → va_W → Prop} {X : String → va_W → Prop}
theorem kVN_E_byteInWindow {e0 : Nat} {a0 : Int32} {K : Int32 → am_MI → am_MJ → Prop} (he0 : e0 < 8) (hd : decode cc pc = .ok (.invokevirtual idx, 3)) (hlink : Cond.methodLinkNest own idx yE_byteInWindow "BubbleBox" ∈ am_TN) (hcat : (rest.map fun v => v.category).sum ≤ 8) (hR : 1 + 1 ≤ rm.frames ∧ 8 + (2 + 11) + 38 * 1 ≤ rm.locals) (hk : k + 1 ≤ rm.cells ∧ n + 6 ≤ rm.slots) (hm : k ≤ mc ∧ n ≤ ms) (hlt : l.stackTraces = false) (h : w_E_byteInWindow e0 a0 I J K (fun _ _ _ => False)) (kk : ∀ (r : Int32) (I1 : am_MI) (J1 : am_MJ), K r I1 J1 → am l D aC own cc nL ret ini tb G rm mc ms k n (pc + 3) L (.int r :: rest) (am_w ad aC I1 J1) Q X) : am l D aC own cc nL ret ini tb G rm mc ms k n pc L (.int a0 :: .ref (ad (6 + e0)) :: rest) (am_w ad aC I J) Q X := by
  refine am_callVN (6 + e0) 3 (As := [.int a0]) (N9 := 1) (am_cF (t_E_byteInWindow hlt he0 h)) hd rfl ((am_w_at ad aC I J (by omega)).trans (by rw [am_cellE ad aC he0])) rfl hlink (am_tw kw_552 rfl) (am_tw kw_551 rfl) ks_42 (am_tw kw_4 rfl) (by decide +kernel) rfl hcat ⟨rfl, rfl⟩ hR hk ?_
  intro v ws1 hq
  obtain ⟨r, I1, J1, rfl, rfl, hq⟩ := hq
  exact kk r I1 J1 hq
end

def w_E_openWindow (e0 : Nat) (a0 : Int32) (a1 : Int64) (I : am_MI) (J : am_MJ) (Q : am_MI → am_MJ → Prop) (X : String → am_MI → am_MJ → Prop) : Prop :=
  Q (am_ui (am_ui I (6 + e0) 3 a0) (6 + e0) 5 (0 : Int32)) (am_uj J (6 + e0) 4 a1)
set_option maxRecDepth 20000 in
theorem t_E_openWindow {l : Launch} {D : va_G} {aC : Nat → ClassId} {ad : Nat → Nat} (hlt : l.stackTraces = false) {e0 : Nat} {a0 : Int32} {a1 : Int64} (he0 : e0 < 8) {I : am_MI} {J : am_MJ} {Q} {X} (h : w_E_openWindow e0 a0 a1 I J Q X) : am_c l D aC yE_openWindow (.code yE_openWindow cE_openWindow 4 none) (am_rm 1) 0 0 [.ref (ad (6 + e0)), .int a0, .long a1] (am_w ad aC I J) (am_lv ad aC Q) (am_lx ad aC X) := by
  unfold w_E_openWindow at h
  refine am_of (ini := false) hlt (by decide +kernel) (Nat.le_of_ble_eq_true rfl) (fun h => nomatch h) ?_
  show am l D aC "BubbleBox$Entry" cE_openWindow 4 none false [] am_G0 (am_rm 1) 0 0 0 0 0 [(0, .ref (ad (6 + e0))), (1, .int a0), (2, .long a1)] [] (am_w ad aC I J) (am_lv ad aC Q) (am_lx ad aC X)
  refine am_aload_n 0 dE_openWindow_0 rfl rfl ?_
  refine am_iload_n 1 dE_openWindow_1 rfl rfl ?_
  refine po_E_windowPage he0 dE_openWindow_2 (am_tw kw_72 rfl) ?_
  refine am_aload_n 0 dE_openWindow_5 rfl rfl ?_
  refine am_lload_n 2 dE_openWindow_6 rfl rfl ?_
  refine po_E_windowBits he0 dE_openWindow_7 (am_tw kw_75 rfl) ?_
  refine am_aload_n 0 dE_openWindow_10 rfl rfl ?_
  refine am_iconst (v := 0) dE_openWindow_11 (by decide) ?_
  refine po_E_changed he0 dE_openWindow_12 (am_tw kw_77 rfl) (by decide) ?_
  exact am_vret dE_openWindow_15 rfl (Nat.le_of_ble_eq_true rfl) (Nat.le_of_ble_eq_true rfl) ⟨_, _, rfl, rfl, h⟩
section
variable {l : Launch} {D : va_G} {aC : Nat → ClassId} {ad : Nat → Nat} {own : String} {cc : ByteArray} {nL : Nat} {ret : Option FieldType} {ini : Bool} {tb : List (Nat × Nat × Nat × Nat)} {G : State → (Nat → Prop) → Prop} {rm : Room} {mc ms k n pc idx : Nat} {L : List (Nat × Value)} {st rest : List Value} {I : am_MI} {J : am_MJ} {Q : Option Value → va_W → Prop} {X : String → va_W → Prop}
theorem kV_E_openWindow {e0 : Nat} {a0 : Int32} {a1 : Int64} {K : am_MI → am_MJ → Prop} {X1 : String → am_MI → am_MJ → Prop} (he0 : e0 < 8) (hd : decode cc pc = .ok (.invokevirtual idx, 3)) (hlink : Cond.methodLink own idx yE_openWindow ∈ am_TW) (hcat : (rest.map fun v => v.category).sum ≤ 8) (hR : 1 + 1 ≤ rm.frames ∧ 8 + (4 + 11) + 38 * 1 ≤ rm.locals) (hk : k + 1 ≤ rm.cells ∧ n + 6 ≤ rm.slots) (hm : k ≤ mc ∧ n ≤ ms) (hlt : l.stackTraces = false) (h : w_E_openWindow e0 a0 a1 I J K X1) (kk : ∀ (I1 : am_MI) (J1 : am_MJ), K I1 J1 → am l D aC own cc nL ret ini [] G rm mc ms k n (pc + 3) L rest (am_w ad aC I1 J1) Q (am_lx ad aC X1)) : am l D aC own cc nL ret ini [] G rm mc ms k n pc L (.long a1 :: .int a0 :: .ref (ad (6 + e0)) :: rest) (am_w ad aC I J) Q (am_lx ad aC X1) := by
  refine am_callV (6 + e0) 3 (As := [.int a0, .long a1]) (N9 := 2) (t_E_openWindow hlt he0 h) hd rfl ((am_w_at ad aC I J (by omega)).trans (by rw [am_cellE ad aC he0])) rfl hlink (am_tw kw_210 rfl) (am_tw kw_209 rfl) ks_3 (am_tw kw_4 rfl) (by decide +kernel) rfl hcat ⟨rfl, rfl⟩ hR hk (fun E ws1 hx => am_out (fun x hx => nomatch hx) (Nat.add_le_add_right hm.1 1) (Nat.add_le_add_right hm.2 6) hx) ?_
  intro v ws1 hq
  obtain ⟨I1, J1, rfl, rfl, hq⟩ := hq
  exact kk I1 J1 hq
end
section
variable {l : Launch} {D : va_G} {aC : Nat → ClassId} {ad : Nat → Nat} {own : String} {cc : ByteArray} {nL : Nat} {ret : Option FieldType} {ini : Bool} {tb : List (Nat × Nat × Nat × Nat)} {G : State → (Nat → Prop) → Prop} {rm : Room} {mc ms k n pc idx : Nat} {L : List (Nat × Value)} {st rest : List Value} {I : am_MI} {J : am_MJ} {Q : Option Value → va_W → Prop} {X : String → va_W → Prop}
theorem kVN_E_openWindow {e0 : Nat} {a0 : Int32} {a1 : Int64} {K : am_MI → am_MJ → Prop} (he0 : e0 < 8) (hd : decode cc pc = .ok (.invokevirtual idx, 3)) (hlink : Cond.methodLinkNest own idx yE_openWindow "BubbleBox" ∈ am_TN) (hcat : (rest.map fun v => v.category).sum ≤ 8) (hR : 1 + 1 ≤ rm.frames ∧ 8 + (4 + 11) + 38 * 1 ≤ rm.locals) (hk : k + 1 ≤ rm.cells ∧ n + 6 ≤ rm.slots) (hm : k ≤ mc ∧ n ≤ ms) (hlt : l.stackTraces = false) (h : w_E_openWindow e0 a0 a1 I J K (fun _ _ _ => False)) (kk : ∀ (I1 : am_MI) (J1 : am_MJ), K I1 J1 → am l D aC own cc nL ret ini tb G rm mc ms k n (pc + 3) L rest (am_w ad aC I1 J1) Q X) : am l D aC own cc nL ret ini tb G rm mc ms k n pc L (.long a1 :: .int a0 :: .ref (ad (6 + e0)) :: rest) (am_w ad aC I J) Q X := by
  refine am_callVN (6 + e0) 3 (As := [.int a0, .long a1]) (N9 := 2) (am_cF (t_E_openWindow hlt he0 h)) hd rfl ((am_w_at ad aC I J (by omega)).trans (by rw [am_cellE ad aC he0])) rfl hlink (am_tw kw_210 rfl) (am_tw kw_209 rfl) ks_3 (am_tw kw_4 rfl) (by decide +kernel) rfl hcat ⟨rfl, rfl⟩ hR hk ?_
  intro v ws1 hq
  obtain ⟨I1, J1, rfl, rfl, hq⟩ := hq
  exact kk I1 J1 hq
end

def w_E_putIntoWindow (e0 : Nat) (a0 : Int32) (a1 : Int32) (I : am_MI) (J : am_MJ) (Q : am_MI → am_MJ → Prop) (X : String → am_MI → am_MJ → Prop) : Prop :=
  Q (am_ui I (6 + e0) 5 (1 : Int32)) (am_uj J (6 + e0) 4 (((J (6 + e0) 4) &&& (((255 : Int64) <<< (((8 : Int32) * a0).toInt64 &&& 63)) ^^^ ((-1) : Int64))) ||| ((a1.toInt64 &&& (255 : Int64)) <<< (((8 : Int32) * a0).toInt64 &&& 63))))
set_option maxRecDepth 20000 in
theorem t_E_putIntoWindow {l : Launch} {D : va_G} {aC : Nat → ClassId} {ad : Nat → Nat} (hlt : l.stackTraces = false) {e0 : Nat} {a0 : Int32} {a1 : Int32} (he0 : e0 < 8) {I : am_MI} {J : am_MJ} {Q} {X} (h : w_E_putIntoWindow e0 a0 a1 I J Q X) : am_c l D aC yE_putIntoWindow (.code yE_putIntoWindow cE_putIntoWindow 4 none) (am_rm 1) 0 0 [.ref (ad (6 + e0)), .int a0, .int a1] (am_w ad aC I J) (am_lv ad aC Q) (am_lx ad aC X) := by
  unfold w_E_putIntoWindow at h
  refine am_of (ini := false) hlt (by decide +kernel) (Nat.le_of_ble_eq_true rfl) (fun h => nomatch h) ?_
  show am l D aC "BubbleBox$Entry" cE_putIntoWindow 4 none false [] am_G0 (am_rm 1) 0 0 0 0 0 [(0, .ref (ad (6 + e0))), (1, .int a0), (2, .int a1)] [] (am_w ad aC I J) (am_lv ad aC Q) (am_lx ad aC X)
  refine am_bipush (v := 8) dE_putIntoWindow_0 (by decide) ?_
  refine am_iload_n 1 dE_putIntoWindow_2 rfl rfl ?_
  refine am_imul dE_putIntoWindow_3 ?_
  refine am_istore_n (L2 := [(3, .int ((8 : Int32) * a0)), (0, .ref (ad (6 + e0))), (1, .int a0), (2, .int a1)]) dE_putIntoWindow_4 rfl (Nat.le_of_ble_eq_true rfl) rfl ?_
  refine am_aload_n 1 dE_putIntoWindow_5 rfl rfl ?_
  refine am_aload_n 1 dE_putIntoWindow_6 rfl rfl ?_
  refine go_E_windowBits he0 dE_putIntoWindow_7 (am_tw kw_75 rfl) ?_
  refine am_ldc2 (v := 255) dE_putIntoWindow_10 (am_tw kw_523 rfl) ?_
  refine am_iload_n 0 dE_putIntoWindow_13 rfl rfl ?_
  refine am_lshl dE_putIntoWindow_14 ?_
  refine am_ldc2 (v := (-1)) dE_putIntoWindow_15 (am_tw kw_524 rfl) ?_
  refine am_lxor dE_putIntoWindow_18 ?_
  refine am_land dE_putIntoWindow_19 ?_
  refine am_iload_n 3 dE_putIntoWindow_20 rfl rfl ?_
  refine am_i2l dE_putIntoWindow_21 ?_
  refine am_ldc2 (v := 255) dE_putIntoWindow_22 (am_tw kw_523 rfl) ?_
  refine am_land dE_putIntoWindow_25 ?_
  refine am_iload_n 0 dE_putIntoWindow_26 rfl rfl ?_
  refine am_lshl dE_putIntoWindow_27 ?_
  refine am_lor dE_putIntoWindow_28 ?_
  refine po_E_windowBits he0 dE_putIntoWindow_29 (am_tw kw_75 rfl) ?_
  refine am_aload_n 1 dE_putIntoWindow_32 rfl rfl ?_
  refine am_iconst (v := 1) dE_putIntoWindow_33 (by decide) ?_
  refine po_E_changed he0 dE_putIntoWindow_34 (am_tw kw_77 rfl) (by decide) ?_
  exact am_vret dE_putIntoWindow_37 rfl (Nat.le_of_ble_eq_true rfl) (Nat.le_of_ble_eq_true rfl) ⟨_, _, rfl, rfl, h⟩
section
variable {l : Launch} {D : va_G} {aC : Nat → ClassId} {ad : Nat → Nat} {own : String} {cc : ByteArray} {nL : Nat} {ret : Option FieldType} {ini : Bool} {tb : List (Nat × Nat × Nat × Nat)} {G : State → (Nat → Prop) → Prop} {rm : Room} {mc ms k n pc idx : Nat} {L : List (Nat × Value)} {st rest : List Value} {I : am_MI} {J : am_MJ} {Q : Option Value → va_W → Prop} {X : String → va_W → Prop}
theorem kVN_E_putIntoWindow {e0 : Nat} {a0 : Int32} {a1 : Int32} {K : am_MI → am_MJ → Prop} (he0 : e0 < 8) (hd : decode cc pc = .ok (.invokevirtual idx, 3)) (hlink : Cond.methodLinkNest own idx yE_putIntoWindow "BubbleBox" ∈ am_TN) (hcat : (rest.map fun v => v.category).sum ≤ 8) (hR : 1 + 1 ≤ rm.frames ∧ 8 + (4 + 11) + 38 * 1 ≤ rm.locals) (hk : k + 1 ≤ rm.cells ∧ n + 6 ≤ rm.slots) (hm : k ≤ mc ∧ n ≤ ms) (hlt : l.stackTraces = false) (h : w_E_putIntoWindow e0 a0 a1 I J K (fun _ _ _ => False)) (kk : ∀ (I1 : am_MI) (J1 : am_MJ), K I1 J1 → am l D aC own cc nL ret ini tb G rm mc ms k n (pc + 3) L rest (am_w ad aC I1 J1) Q X) : am l D aC own cc nL ret ini tb G rm mc ms k n pc L (.int a1 :: .int a0 :: .ref (ad (6 + e0)) :: rest) (am_w ad aC I J) Q X := by
  refine am_callVN (6 + e0) 3 (As := [.int a0, .int a1]) (N9 := 2) (am_cF (t_E_putIntoWindow hlt he0 h)) hd rfl ((am_w_at ad aC I J (by omega)).trans (by rw [am_cellE ad aC he0])) rfl hlink (am_tw kw_522 rfl) (am_tw kw_521 rfl) ks_41 (am_tw kw_4 rfl) (by decide +kernel) rfl hcat ⟨rfl, rfl⟩ hR hk ?_
  intro v ws1 hq
  obtain ⟨I1, J1, rfl, rfl, hq⟩ := hq
  exact kk I1 J1 hq
end
def w_I_clear_2 (z0 : Nat) (x1 : Int32) (I : am_MI) (J : am_MJ) (Q : am_MI → am_MJ → Prop) (X : String → am_MI → am_MJ → Prop) : Prop :=
  ∀ P2 : Int32 → am_MI → am_MJ → Prop, (∀ (x1 : Int32) (I : am_MI) (J : am_MJ), (((20 : Int32) ≤ x1 → (Q I J)) ∧ (¬ ((20 : Int32) ≤ x1) → (vp_in x1 20 ∧ (P2 (x1 + 1) I (am_uj J (25 + 2 * z0) x1.toNatClampNeg (0 : Int64)))))) → P2 x1 I J) → P2 x1 I J
set_option maxRecDepth 20000 in
theorem t_I_clear_2 {l : Launch} {D : va_G} {aC : Nat → ClassId} {ad : Nat → Nat} (hlt : l.stackTraces = false) {z0 : Nat} {x1 : Int32} (hz0 : z0 < 2) {I : am_MI} {J : am_MJ} {Q} {X} (h : w_I_clear_2 z0 x1 I J Q X) : am l D aC "BubbleBox$Image" cI_clear 2 none false [] am_G0 (am_rm 1) 0 0 0 0 2 [(0, .ref (ad (24 + 2 * z0))), (1, .int x1)] [] (am_w ad aC I J) (am_lv ad aC Q) (am_lx ad aC X) := by
  unfold w_I_clear_2 at h
  refine h (fun (x1 : Int32) (I : am_MI) (J : am_MJ) => am l D aC "BubbleBox$Image" cI_clear 2 none false [] am_G0 (am_rm 1) 0 0 0 0 2 [(0, .ref (ad (24 + 2 * z0))), (1, .int x1)] [] (am_w ad aC I J) (am_lv ad aC Q) (am_lx ad aC X)) (fun x1 I J h => ?_)
  refine am_iload_n 1 dI_clear_2 rfl rfl ?_
  refine am_bipush (v := 20) dI_clear_3 (by decide) ?_
  refine am_icmp_ge 21 dI_clear_5 (by decide) (fun hc1 => ?_) (fun hc1 => ?_)
  · replace h := h.1 hc1
    exact am_vret dI_clear_21 rfl (Nat.le_of_ble_eq_true rfl) (Nat.le_of_ble_eq_true rfl) ⟨_, _, rfl, rfl, h⟩
  · replace h := h.2 hc1
    refine am_aload_n 0 dI_clear_8 rfl rfl ?_
    refine go_I_pages hz0 dI_clear_9 (am_tw kw_149 rfl) ?_
    refine am_iload_n 1 dI_clear_12 rfl rfl ?_
    refine am_lconst (v := 0) dI_clear_13 (by decide) ?_
    obtain ⟨hi2, h⟩ := h
    refine st_im hz0 hi2 dI_clear_14 ?_
    refine am_iinc (j := 1) (v := x1 + 1) (L2 := [(1, .int (x1 + 1)), (0, .ref (ad (24 + 2 * z0)))]) dI_clear_15 rfl (congrArg (x1 + ·) (by decide : Int32.ofInt (1) = 1)) (Nat.le_of_ble_eq_true rfl) rfl ?_
    refine am_goto 2 dI_clear_18 (by decide) ?_
    exact am_sub [1, 0] rfl h

def w_I_clear (g0 : Nat) (I : am_MI) (J : am_MJ) (Q : am_MI → am_MJ → Prop) (X : String → am_MI → am_MJ → Prop) : Prop :=
  w_I_clear_2 g0 (0 : Int32) I J Q X
set_option maxRecDepth 20000 in
theorem t_I_clear {l : Launch} {D : va_G} {aC : Nat → ClassId} {ad : Nat → Nat} (hlt : l.stackTraces = false) {g0 : Nat} (hg0 : g0 < 2) {I : am_MI} {J : am_MJ} {Q} {X} (h : w_I_clear g0 I J Q X) : am_c l D aC yI_clear (.code yI_clear cI_clear 2 none) (am_rm 1) 0 0 [.ref (ad (24 + 2 * g0))] (am_w ad aC I J) (am_lv ad aC Q) (am_lx ad aC X) := by
  unfold w_I_clear at h
  refine am_of (ini := false) hlt (by decide +kernel) (Nat.le_of_ble_eq_true rfl) (fun h => nomatch h) ?_
  show am l D aC "BubbleBox$Image" cI_clear 2 none false [] am_G0 (am_rm 1) 0 0 0 0 0 [(0, .ref (ad (24 + 2 * g0)))] [] (am_w ad aC I J) (am_lv ad aC Q) (am_lx ad aC X)
  refine am_iconst (v := 0) dI_clear_0 (by decide) ?_
  refine am_istore_n (L2 := [(1, .int 0), (0, .ref (ad (24 + 2 * g0)))]) dI_clear_1 rfl (Nat.le_of_ble_eq_true rfl) rfl ?_
  exact am_sub [1, 0] rfl (t_I_clear_2 hlt hg0 h)
section
variable {l : Launch} {D : va_G} {aC : Nat → ClassId} {ad : Nat → Nat} {own : String} {cc : ByteArray} {nL : Nat} {ret : Option FieldType} {ini : Bool} {tb : List (Nat × Nat × Nat × Nat)} {G : State → (Nat → Prop) → Prop} {rm : Room} {mc ms k n pc idx : Nat} {L : List (Nat × Value)} {st rest : List Value} {I : am_MI} {J : am_MJ} {Q : Option Value → va_W → Prop} {X : String → va_W → Prop}
theorem kVN_I_clear {g0 : Nat} {K : am_MI → am_MJ → Prop} (hg0 : g0 < 2) (hd : decode cc pc = .ok (.invokevirtual idx, 3)) (hlink : Cond.methodLinkNest own idx yI_clear "BubbleBox" ∈ am_TN) (hcat : (rest.map fun v => v.category).sum ≤ 8) (hR : 1 + 1 ≤ rm.frames ∧ 8 + (2 + 11) + 38 * 1 ≤ rm.locals) (hk : k + 1 ≤ rm.cells ∧ n + 6 ≤ rm.slots) (hm : k ≤ mc ∧ n ≤ ms) (hlt : l.stackTraces = false) (h : w_I_clear g0 I J K (fun _ _ _ => False)) (kk : ∀ (I1 : am_MI) (J1 : am_MJ), K I1 J1 → am l D aC own cc nL ret ini tb G rm mc ms k n (pc + 3) L rest (am_w ad aC I1 J1) Q X) : am l D aC own cc nL ret ini tb G rm mc ms k n pc L (.ref (ad (24 + 2 * g0)) :: rest) (am_w ad aC I J) Q X := by
  refine am_callVN (24 + 2 * g0) 4 (As := []) (N9 := 0) (am_cF (t_I_clear hlt hg0 h)) hd rfl ((am_w_at ad aC I J (by omega)).trans (by rw [am_cellI ad aC hg0])) rfl hlink (am_tw kw_408 rfl) (am_tw kw_407 rfl) ks_26 (am_tw kw_6 rfl) (by decide +kernel) rfl hcat ⟨rfl, rfl⟩ hR hk ?_
  intro v ws1 hq
  obtain ⟨I1, J1, rfl, rfl, hq⟩ := hq
  exact kk I1 J1 hq
end
def w_I_number_5 (z0 : Nat) (x1 : Int32) (x2 : Int32) (x3 : Int32) (x4 : Int32) (I : am_MI) (J : am_MJ) (Q : Int32 → am_MI → am_MJ → Prop) (X : String → am_MI → am_MJ → Prop) : Prop :=
  ∀ P5 : Int32 → Int32 → am_MI → am_MJ → Prop, (∀ (x3 : Int32) (x4 : Int32) (I : am_MI) (J : am_MJ), ((x2 ≤ x4 → (Q x3 I J)) ∧ (¬ (x2 ≤ x4) → (vp_in ((x1 + x4) / (8 : Int32)) 20 ∧ (P5 (x3 ||| ((((((J (25 + 2 * z0) ((x1 + x4) / (8 : Int32)).toNatClampNeg).toUInt64 >>> (((8 : Int32) * ((x1 + x4) - (x1 + x4) / (8 : Int32) * (8 : Int32))).toInt64.toUInt64 &&& Int64.toUInt64 63)).toInt64).toInt32) &&& (255 : Int32)) <<< (((8 : Int32) * x4) &&& 31))) (x4 + 1) I J)))) → P5 x3 x4 I J) → P5 x3 x4 I J
set_option maxRecDepth 20000 in
theorem t_I_number_5 {l : Launch} {D : va_G} {aC : Nat → ClassId} {ad : Nat → Nat} (hlt : l.stackTraces = false) {z0 : Nat} {x1 : Int32} {x2 : Int32} {x3 : Int32} {x4 : Int32} (hz0 : z0 < 2) {I : am_MI} {J : am_MJ} {Q} {X} (h : w_I_number_5 z0 x1 x2 x3 x4 I J Q X) : am l D aC "BubbleBox$Image" cI_number 7 (some .int) false [] am_G0 (am_rm 1) 0 0 0 0 5 [(0, .ref (ad (24 + 2 * z0))), (1, .int x1), (2, .int x2), (3, .int x3), (4, .int x4)] [] (am_w ad aC I J) (am_li ad aC Q) (am_lx ad aC X) := by
  unfold w_I_number_5 at h
  refine h (fun (x3 : Int32) (x4 : Int32) (I : am_MI) (J : am_MJ) => am l D aC "BubbleBox$Image" cI_number 7 (some .int) false [] am_G0 (am_rm 1) 0 0 0 0 5 [(0, .ref (ad (24 + 2 * z0))), (1, .int x1), (2, .int x2), (3, .int x3), (4, .int x4)] [] (am_w ad aC I J) (am_li ad aC Q) (am_lx ad aC X)) (fun x3 x4 I J h => ?_)
  refine am_iload 4 dI_number_5 rfl ?_
  refine am_iload_n 2 dI_number_7 rfl rfl ?_
  refine am_icmp_ge 60 dI_number_8 (by decide) (fun hc1 => ?_) (fun hc1 => ?_)
  · replace h := h.1 hc1
    refine am_iload_n 3 dI_number_60 rfl rfl ?_
    exact am_iret dI_number_61 rfl (Nat.le_of_ble_eq_true rfl) (Nat.le_of_ble_eq_true rfl) ⟨_, _, _, rfl, rfl, h⟩
  · replace h := h.2 hc1
    refine am_iload_n 1 dI_number_11 rfl rfl ?_
    refine am_iload 4 dI_number_12 rfl ?_
    refine am_iadd dI_number_14 ?_
    refine am_istore (L2 := [(5, .int (x1 + x4)), (0, .ref (ad (24 + 2 * z0))), (1, .int x1), (2, .int x2), (3, .int x3), (4, .int x4)]) dI_number_15 (Nat.le_of_ble_eq_true rfl) rfl ?_
    refine am_aload_n 1 dI_number_17 rfl rfl ?_
    refine go_I_pages hz0 dI_number_18 (am_tw kw_149 rfl) ?_
    refine am_iload 0 dI_number_21 rfl ?_
    refine am_bipush (v := 8) dI_number_23 (by decide) ?_
    refine am_idiv dI_number_25 (by decide) ?_
    obtain ⟨hi2, h⟩ := h
    refine ld_im hz0 hi2 dI_number_26 ?_
    refine am_bipush (v := 8) dI_number_27 (by decide) ?_
    refine am_iload 0 dI_number_29 rfl ?_
    refine am_bipush (v := 8) dI_number_31 (by decide) ?_
    refine am_irem dI_number_33 (by decide) ?_
    refine am_imul dI_number_34 ?_
    refine am_lushr dI_number_35 ?_
    refine am_l2i dI_number_36 ?_
    refine am_sipush (v := 255) dI_number_37 (by decide) ?_
    refine am_iand dI_number_40 ?_
    refine am_istore (L2 := [(6, .int (((((J (25 + 2 * z0) ((x1 + x4) / (8 : Int32)).toNatClampNeg).toUInt64 >>> (((8 : Int32) * ((x1 + x4) - (x1 + x4) / (8 : Int32) * (8 : Int32))).toInt64.toUInt64 &&& Int64.toUInt64 63)).toInt64).toInt32) &&& (255 : Int32))), (5, .int (x1 + x4)), (0, .ref (ad (24 + 2 * z0))), (1, .int x1), (2, .int x2), (3, .int x3), (4, .int x4)]) dI_number_41 (Nat.le_of_ble_eq_true rfl) rfl ?_
    refine am_iload_n 5 dI_number_43 rfl rfl ?_
    refine am_iload 0 dI_number_44 rfl ?_
    refine am_bipush (v := 8) dI_number_46 (by decide) ?_
    refine am_iload 6 dI_number_48 rfl ?_
    refine am_imul dI_number_50 ?_
    refine am_ishl dI_number_51 ?_
    refine am_ior dI_number_52 ?_
    refine am_istore_n (L2 := [(3, .int (x3 ||| ((((((J (25 + 2 * z0) ((x1 + x4) / (8 : Int32)).toNatClampNeg).toUInt64 >>> (((8 : Int32) * ((x1 + x4) - (x1 + x4) / (8 : Int32) * (8 : Int32))).toInt64.toUInt64 &&& Int64.toUInt64 63)).toInt64).toInt32) &&& (255 : Int32)) <<< (((8 : Int32) * x4) &&& 31)))), (6, .int (((((J (25 + 2 * z0) ((x1 + x4) / (8 : Int32)).toNatClampNeg).toUInt64 >>> (((8 : Int32) * ((x1 + x4) - (x1 + x4) / (8 : Int32) * (8 : Int32))).toInt64.toUInt64 &&& Int64.toUInt64 63)).toInt64).toInt32) &&& (255 : Int32))), (5, .int (x1 + x4)), (0, .ref (ad (24 + 2 * z0))), (1, .int x1), (2, .int x2), (4, .int x4)]) dI_number_53 rfl (Nat.le_of_ble_eq_true rfl) rfl ?_
    refine am_iinc (j := 6) (v := x4 + 1) (L2 := [(4, .int (x4 + 1)), (3, .int (x3 ||| ((((((J (25 + 2 * z0) ((x1 + x4) / (8 : Int32)).toNatClampNeg).toUInt64 >>> (((8 : Int32) * ((x1 + x4) - (x1 + x4) / (8 : Int32) * (8 : Int32))).toInt64.toUInt64 &&& Int64.toUInt64 63)).toInt64).toInt32) &&& (255 : Int32)) <<< (((8 : Int32) * x4) &&& 31)))), (6, .int (((((J (25 + 2 * z0) ((x1 + x4) / (8 : Int32)).toNatClampNeg).toUInt64 >>> (((8 : Int32) * ((x1 + x4) - (x1 + x4) / (8 : Int32) * (8 : Int32))).toInt64.toUInt64 &&& Int64.toUInt64 63)).toInt64).toInt32) &&& (255 : Int32))), (5, .int (x1 + x4)), (0, .ref (ad (24 + 2 * z0))), (1, .int x1), (2, .int x2)]) dI_number_54 rfl (congrArg (x4 + ·) (by decide : Int32.ofInt (1) = 1)) (Nat.le_of_ble_eq_true rfl) rfl ?_
    refine am_goto 5 dI_number_57 (by decide) ?_
    exact am_sub [4, 5, 6, 1, 0] rfl h

def w_I_number (g0 : Nat) (a0 : Int32) (a1 : Int32) (I : am_MI) (J : am_MJ) (Q : Int32 → am_MI → am_MJ → Prop) (X : String → am_MI → am_MJ → Prop) : Prop :=
  w_I_number_5 g0 a0 a1 (0 : Int32) (0 : Int32) I J Q X
set_option maxRecDepth 20000 in
theorem t_I_number {l : Launch} {D : va_G} {aC : Nat → ClassId} {ad : Nat → Nat} (hlt : l.stackTraces = false) {g0 : Nat} {a0 : Int32} {a1 : Int32} (hg0 : g0 < 2) {I : am_MI} {J : am_MJ} {Q} {X} (h : w_I_number g0 a0 a1 I J Q X) : am_c l D aC yI_number (.code yI_number cI_number 7 (some .int)) (am_rm 1) 0 0 [.ref (ad (24 + 2 * g0)), .int a0, .int a1] (am_w ad aC I J) (am_li ad aC Q) (am_lx ad aC X) := by
  unfold w_I_number at h
  refine am_of (ini := false) hlt (by decide +kernel) (Nat.le_of_ble_eq_true rfl) (fun h => nomatch h) ?_
  show am l D aC "BubbleBox$Image" cI_number 7 (some .int) false [] am_G0 (am_rm 1) 0 0 0 0 0 [(0, .ref (ad (24 + 2 * g0))), (1, .int a0), (2, .int a1)] [] (am_w ad aC I J) (am_li ad aC Q) (am_lx ad aC X)
  refine am_iconst (v := 0) dI_number_0 (by decide) ?_
  refine am_istore_n (L2 := [(3, .int 0), (0, .ref (ad (24 + 2 * g0))), (1, .int a0), (2, .int a1)]) dI_number_1 rfl (Nat.le_of_ble_eq_true rfl) rfl ?_
  refine am_iconst (v := 0) dI_number_2 (by decide) ?_
  refine am_istore (L2 := [(4, .int 0), (3, .int 0), (0, .ref (ad (24 + 2 * g0))), (1, .int a0), (2, .int a1)]) dI_number_3 (Nat.le_of_ble_eq_true rfl) rfl ?_
  exact am_sub [2, 3, 4, 1, 0] rfl (t_I_number_5 hlt hg0 h)
section
variable {l : Launch} {D : va_G} {aC : Nat → ClassId} {ad : Nat → Nat} {own : String} {cc : ByteArray} {nL : Nat} {ret : Option FieldType} {ini : Bool} {tb : List (Nat × Nat × Nat × Nat)} {G : State → (Nat → Prop) → Prop} {rm : Room} {mc ms k n pc idx : Nat} {L : List (Nat × Value)} {st rest : List Value} {I : am_MI} {J : am_MJ} {Q : Option Value → va_W → Prop} {X : String → va_W → Prop}
theorem kV_I_number {g0 : Nat} {a0 : Int32} {a1 : Int32} {K : Int32 → am_MI → am_MJ → Prop} {X1 : String → am_MI → am_MJ → Prop} (hg0 : g0 < 2) (hd : decode cc pc = .ok (.invokevirtual idx, 3)) (hlink : Cond.methodLink own idx yI_number ∈ am_TW) (hcat : (rest.map fun v => v.category).sum ≤ 8) (hR : 1 + 1 ≤ rm.frames ∧ 8 + (7 + 11) + 38 * 1 ≤ rm.locals) (hk : k + 1 ≤ rm.cells ∧ n + 6 ≤ rm.slots) (hm : k ≤ mc ∧ n ≤ ms) (hlt : l.stackTraces = false) (h : w_I_number g0 a0 a1 I J K X1) (kk : ∀ (r : Int32) (I1 : am_MI) (J1 : am_MJ), K r I1 J1 → am l D aC own cc nL ret ini [] G rm mc ms k n (pc + 3) L (.int r :: rest) (am_w ad aC I1 J1) Q (am_lx ad aC X1)) : am l D aC own cc nL ret ini [] G rm mc ms k n pc L (.int a1 :: .int a0 :: .ref (ad (24 + 2 * g0)) :: rest) (am_w ad aC I J) Q (am_lx ad aC X1) := by
  refine am_callV (24 + 2 * g0) 4 (As := [.int a0, .int a1]) (N9 := 2) (t_I_number hlt hg0 h) hd rfl ((am_w_at ad aC I J (by omega)).trans (by rw [am_cellI ad aC hg0])) rfl hlink (am_tw kw_315 rfl) (am_tw kw_314 rfl) ks_13 (am_tw kw_6 rfl) (by decide +kernel) rfl hcat ⟨rfl, rfl⟩ hR hk (fun E ws1 hx => am_out (fun x hx => nomatch hx) (Nat.add_le_add_right hm.1 1) (Nat.add_le_add_right hm.2 6) hx) ?_
  intro v ws1 hq
  obtain ⟨r, I1, J1, rfl, rfl, hq⟩ := hq
  exact kk r I1 J1 hq
end
section
variable {l : Launch} {D : va_G} {aC : Nat → ClassId} {ad : Nat → Nat} {own : String} {cc : ByteArray} {nL : Nat} {ret : Option FieldType} {ini : Bool} {tb : List (Nat × Nat × Nat × Nat)} {G : State → (Nat → Prop) → Prop} {rm : Room} {mc ms k n pc idx : Nat} {L : List (Nat × Value)} {st rest : List Value} {I : am_MI} {J : am_MJ} {Q : Option Value → va_W → Prop} {X : String → va_W → Prop}
theorem kVN_I_number {g0 : Nat} {a0 : Int32} {a1 : Int32} {K : Int32 → am_MI → am_MJ → Prop} (hg0 : g0 < 2) (hd : decode cc pc = .ok (.invokevirtual idx, 3)) (hlink : Cond.methodLinkNest own idx yI_number "BubbleBox" ∈ am_TN) (hcat : (rest.map fun v => v.category).sum ≤ 8) (hR : 1 + 1 ≤ rm.frames ∧ 8 + (7 + 11) + 38 * 1 ≤ rm.locals) (hk : k + 1 ≤ rm.cells ∧ n + 6 ≤ rm.slots) (hm : k ≤ mc ∧ n ≤ ms) (hlt : l.stackTraces = false) (h : w_I_number g0 a0 a1 I J K (fun _ _ _ => False)) (kk : ∀ (r : Int32) (I1 : am_MI) (J1 : am_MJ), K r I1 J1 → am l D aC own cc nL ret ini tb G rm mc ms k n (pc + 3) L (.int r :: rest) (am_w ad aC I1 J1) Q X) : am l D aC own cc nL ret ini tb G rm mc ms k n pc L (.int a1 :: .int a0 :: .ref (ad (24 + 2 * g0)) :: rest) (am_w ad aC I J) Q X := by
  refine am_callVN (24 + 2 * g0) 4 (As := [.int a0, .int a1]) (N9 := 2) (am_cF (t_I_number hlt hg0 h)) hd rfl ((am_w_at ad aC I J (by omega)).trans (by rw [am_cellI ad aC hg0])) rfl hlink (am_tw kw_315 rfl) (am_tw kw_314 rfl) ks_13 (am_tw kw_6 rfl) (by decide +kernel) rfl hcat ⟨rfl, rfl⟩ hR hk ?_
  intro v ws1 hq
  obtain ⟨r, I1, J1, rfl, rfl, hq⟩ := hq
  exact kk r I1 J1 hq
end
def w_I_putNumber_3 (z0 : Nat) (x1 : Int32) (x2 : Int32) (x3 : Int32) (x4 : Int32) (I : am_MI) (J : am_MJ) (Q : am_MI → am_MJ → Prop) (X : String → am_MI → am_MJ → Prop) : Prop :=
  ∀ P3 : Int32 → am_MI → am_MJ → Prop, (∀ (x4 : Int32) (I : am_MI) (J : am_MJ), ((x2 ≤ x4 → (Q I J)) ∧ (¬ (x2 ≤ x4) → (vp_in ((x1 + x4) / (8 : Int32)) 20 ∧ (vp_in ((x1 + x4) / (8 : Int32)) 20 ∧ (P3 (x4 + 1) I (am_uj J (25 + 2 * z0) ((x1 + x4) / (8 : Int32)).toNatClampNeg ((J (25 + 2 * z0) ((x1 + x4) / (8 : Int32)).toNatClampNeg) ||| (((((x3.toUInt32 >>> (((8 : Int32) * x4).toUInt32 &&& Int32.toUInt32 31)).toInt32) &&& (255 : Int32)).toInt64) <<< (((8 : Int32) * ((x1 + x4) - (x1 + x4) / (8 : Int32) * (8 : Int32))).toInt64 &&& 63))))))))) → P3 x4 I J) → P3 x4 I J
set_option maxRecDepth 20000 in
theorem t_I_putNumber_3 {l : Launch} {D : va_G} {aC : Nat → ClassId} {ad : Nat → Nat} (hlt : l.stackTraces = false) {z0 : Nat} {x1 : Int32} {x2 : Int32} {x3 : Int32} {x4 : Int32} (hz0 : z0 < 2) {I : am_MI} {J : am_MJ} {Q} {X} (h : w_I_putNumber_3 z0 x1 x2 x3 x4 I J Q X) : am l D aC "BubbleBox$Image" cI_putNumber 8 none false [] am_G0 (am_rm 1) 0 0 0 0 3 [(0, .ref (ad (24 + 2 * z0))), (1, .int x1), (2, .int x2), (3, .int x3), (4, .int x4)] [] (am_w ad aC I J) (am_lv ad aC Q) (am_lx ad aC X) := by
  unfold w_I_putNumber_3 at h
  refine h (fun (x4 : Int32) (I : am_MI) (J : am_MJ) => am l D aC "BubbleBox$Image" cI_putNumber 8 none false [] am_G0 (am_rm 1) 0 0 0 0 3 [(0, .ref (ad (24 + 2 * z0))), (1, .int x1), (2, .int x2), (3, .int x3), (4, .int x4)] [] (am_w ad aC I J) (am_lv ad aC Q) (am_lx ad aC X)) (fun x4 I J h => ?_)
  refine am_iload 4 dI_putNumber_3 rfl ?_
  refine am_iload_n 2 dI_putNumber_5 rfl rfl ?_
  refine am_icmp_ge 59 dI_putNumber_6 (by decide) (fun hc1 => ?_) (fun hc1 => ?_)
  · replace h := h.1 hc1
    exact am_vret dI_putNumber_59 rfl (Nat.le_of_ble_eq_true rfl) (Nat.le_of_ble_eq_true rfl) ⟨_, _, rfl, rfl, h⟩
  · replace h := h.2 hc1
    refine am_iload_n 1 dI_putNumber_9 rfl rfl ?_
    refine am_iload 4 dI_putNumber_10 rfl ?_
    refine am_iadd dI_putNumber_12 ?_
    refine am_istore (L2 := [(5, .int (x1 + x4)), (0, .ref (ad (24 + 2 * z0))), (1, .int x1), (2, .int x2), (3, .int x3), (4, .int x4)]) dI_putNumber_13 (Nat.le_of_ble_eq_true rfl) rfl ?_
    refine am_iload_n 4 dI_putNumber_15 rfl rfl ?_
    refine am_bipush (v := 8) dI_putNumber_16 (by decide) ?_
    refine am_iload 5 dI_putNumber_18 rfl ?_
    refine am_imul dI_putNumber_20 ?_
    refine am_iushr dI_putNumber_21 ?_
    refine am_sipush (v := 255) dI_putNumber_22 (by decide) ?_
    refine am_iand dI_putNumber_25 ?_
    refine am_i2l dI_putNumber_26 ?_
    refine am_lstore (L2 := [(6, .long ((((x3.toUInt32 >>> (((8 : Int32) * x4).toUInt32 &&& Int32.toUInt32 31)).toInt32) &&& (255 : Int32)).toInt64)), (5, .int (x1 + x4)), (0, .ref (ad (24 + 2 * z0))), (1, .int x1), (2, .int x2), (3, .int x3), (4, .int x4)]) dI_putNumber_27 (Nat.le_of_ble_eq_true rfl) rfl ?_
    refine am_aload_n 2 dI_putNumber_29 rfl rfl ?_
    refine go_I_pages hz0 dI_putNumber_30 (am_tw kw_149 rfl) ?_
    refine am_iload 1 dI_putNumber_33 rfl ?_
    refine am_bipush (v := 8) dI_putNumber_35 (by decide) ?_
    refine am_idiv dI_putNumber_37 (by decide) ?_
    refine am_dup2 dI_putNumber_38 rfl rfl ?_
    obtain ⟨hi2, h⟩ := h
    refine ld_im hz0 hi2 dI_putNumber_39 ?_
    refine am_lload 0 dI_putNumber_40 rfl ?_
    refine am_bipush (v := 8) dI_putNumber_42 (by decide) ?_
    refine am_iload 1 dI_putNumber_44 rfl ?_
    refine am_bipush (v := 8) dI_putNumber_46 (by decide) ?_
    refine am_irem dI_putNumber_48 (by decide) ?_
    refine am_imul dI_putNumber_49 ?_
    refine am_lshl dI_putNumber_50 ?_
    refine am_lor dI_putNumber_51 ?_
    obtain ⟨hi3, h⟩ := h
    refine st_im hz0 hi3 dI_putNumber_52 ?_
    refine am_iinc (j := 6) (v := x4 + 1) (L2 := [(4, .int (x4 + 1)), (6, .long ((((x3.toUInt32 >>> (((8 : Int32) * x4).toUInt32 &&& Int32.toUInt32 31)).toInt32) &&& (255 : Int32)).toInt64)), (5, .int (x1 + x4)), (0, .ref (ad (24 + 2 * z0))), (1, .int x1), (2, .int x2), (3, .int x3)]) dI_putNumber_53 rfl (congrArg (x4 + ·) (by decide : Int32.ofInt (1) = 1)) (Nat.le_of_ble_eq_true rfl) rfl ?_
    refine am_goto 3 dI_putNumber_56 (by decide) ?_
    exact am_sub [3, 4, 5, 6, 0] rfl h

def w_I_putNumber (g0 : Nat) (a0 : Int32) (a1 : Int32) (a2 : Int32) (I : am_MI) (J : am_MJ) (Q : am_MI → am_MJ → Prop) (X : String → am_MI → am_MJ → Prop) : Prop :=
  w_I_putNumber_3 g0 a0 a1 a2 (0 : Int32) I J Q X
set_option maxRecDepth 20000 in
theorem t_I_putNumber {l : Launch} {D : va_G} {aC : Nat → ClassId} {ad : Nat → Nat} (hlt : l.stackTraces = false) {g0 : Nat} {a0 : Int32} {a1 : Int32} {a2 : Int32} (hg0 : g0 < 2) {I : am_MI} {J : am_MJ} {Q} {X} (h : w_I_putNumber g0 a0 a1 a2 I J Q X) : am_c l D aC yI_putNumber (.code yI_putNumber cI_putNumber 8 none) (am_rm 1) 0 0 [.ref (ad (24 + 2 * g0)), .int a0, .int a1, .int a2] (am_w ad aC I J) (am_lv ad aC Q) (am_lx ad aC X) := by
  unfold w_I_putNumber at h
  refine am_of (ini := false) hlt (by decide +kernel) (Nat.le_of_ble_eq_true rfl) (fun h => nomatch h) ?_
  show am l D aC "BubbleBox$Image" cI_putNumber 8 none false [] am_G0 (am_rm 1) 0 0 0 0 0 [(0, .ref (ad (24 + 2 * g0))), (1, .int a0), (2, .int a1), (3, .int a2)] [] (am_w ad aC I J) (am_lv ad aC Q) (am_lx ad aC X)
  refine am_iconst (v := 0) dI_putNumber_0 (by decide) ?_
  refine am_istore (L2 := [(4, .int 0), (0, .ref (ad (24 + 2 * g0))), (1, .int a0), (2, .int a1), (3, .int a2)]) dI_putNumber_1 (Nat.le_of_ble_eq_true rfl) rfl ?_
  exact am_sub [1, 2, 3, 4, 0] rfl (t_I_putNumber_3 hlt hg0 h)
section
variable {l : Launch} {D : va_G} {aC : Nat → ClassId} {ad : Nat → Nat} {own : String} {cc : ByteArray} {nL : Nat} {ret : Option FieldType} {ini : Bool} {tb : List (Nat × Nat × Nat × Nat)} {G : State → (Nat → Prop) → Prop} {rm : Room} {mc ms k n pc idx : Nat} {L : List (Nat × Value)} {st rest : List Value} {I : am_MI} {J : am_MJ} {Q : Option Value → va_W → Prop} {X : String → va_W → Prop}
theorem kVN_I_putNumber {g0 : Nat} {a0 : Int32} {a1 : Int32} {a2 : Int32} {K : am_MI → am_MJ → Prop} (hg0 : g0 < 2) (hd : decode cc pc = .ok (.invokevirtual idx, 3)) (hlink : Cond.methodLinkNest own idx yI_putNumber "BubbleBox" ∈ am_TN) (hcat : (rest.map fun v => v.category).sum ≤ 8) (hR : 1 + 1 ≤ rm.frames ∧ 8 + (8 + 11) + 38 * 1 ≤ rm.locals) (hk : k + 1 ≤ rm.cells ∧ n + 6 ≤ rm.slots) (hm : k ≤ mc ∧ n ≤ ms) (hlt : l.stackTraces = false) (h : w_I_putNumber g0 a0 a1 a2 I J K (fun _ _ _ => False)) (kk : ∀ (I1 : am_MI) (J1 : am_MJ), K I1 J1 → am l D aC own cc nL ret ini tb G rm mc ms k n (pc + 3) L rest (am_w ad aC I1 J1) Q X) : am l D aC own cc nL ret ini tb G rm mc ms k n pc L (.int a2 :: .int a1 :: .int a0 :: .ref (ad (24 + 2 * g0)) :: rest) (am_w ad aC I J) Q X := by
  refine am_callVN (24 + 2 * g0) 4 (As := [.int a0, .int a1, .int a2]) (N9 := 3) (am_cF (t_I_putNumber hlt hg0 h)) hd rfl ((am_w_at ad aC I J (by omega)).trans (by rw [am_cellI ad aC hg0])) rfl hlink (am_tw kw_412 rfl) (am_tw kw_411 rfl) ks_27 (am_tw kw_6 rfl) (by decide +kernel) rfl hcat ⟨rfl, rfl⟩ hR hk ?_
  intro v ws1 hq
  obtain ⟨I1, J1, rfl, rfl, hq⟩ := hq
  exact kk I1 J1 hq
end

def w_R_ask (a0 : Int32) (a1 : Int32) (a2 : Int64) (I : am_MI) (J : am_MJ) (Q : Int32 → am_MI → am_MJ → Prop) (X : String → am_MI → am_MJ → Prop) : Prop :=
  vp_in (I 17 5) 16 ∧ (vp_in (I 17 5) 16 ∧ (vp_in (I 17 5) 16 ∧ (Q (I 17 5) (am_ui (am_ui (am_ui I 18 (I 17 5).toNatClampNeg a0) 19 (I 17 5).toNatClampNeg (vp_nar .boolean a1)) 17 5 (((am_ui (am_ui I 18 (I 17 5).toNatClampNeg a0) 19 (I 17 5).toNatClampNeg (vp_nar .boolean a1)) 17 5) + (1 : Int32))) (am_uj J 20 (I 17 5).toNatClampNeg a2))))
set_option maxRecDepth 20000 in
theorem t_R_ask {l : Launch} {D : va_G} {aC : Nat → ClassId} {ad : Nat → Nat} (hlt : l.stackTraces = false) {a0 : Int32} {a1 : Int32} {a2 : Int64} {I : am_MI} {J : am_MJ} {Q} {X} (h : w_R_ask a0 a1 a2 I J Q X) : am_c l D aC yR_ask (.code yR_ask cR_ask 6 (some .int)) (am_rm 1) 0 0 [.ref (ad 17), .int a0, .int a1, .long a2] (am_w ad aC I J) (am_li ad aC Q) (am_lx ad aC X) := by
  unfold w_R_ask at h
  refine am_of (ini := false) hlt (by decide +kernel) (Nat.le_of_ble_eq_true rfl) (fun h => nomatch h) ?_
  show am l D aC "BubbleBox$Requests" cR_ask 6 (some .int) false [] am_G0 (am_rm 1) 0 0 0 0 0 [(0, .ref (ad 17)), (1, .int a0), (2, .int a1), (3, .long a2)] [] (am_w ad aC I J) (am_li ad aC Q) (am_lx ad aC X)
  refine am_aload_n 0 dR_ask_0 rfl rfl ?_
  refine go_R_asked dR_ask_1 (am_tw kw_123 rfl) ?_
  refine am_istore (L2 := [(5, .int (I 17 5)), (0, .ref (ad 17)), (1, .int a0), (2, .int a1), (3, .long a2)]) dR_ask_4 (Nat.le_of_ble_eq_true rfl) rfl ?_
  refine am_aload_n 1 dR_ask_6 rfl rfl ?_
  refine go_R_page dR_ask_7 (am_tw kw_114 rfl) ?_
  refine am_iload 0 dR_ask_10 rfl ?_
  refine am_iload_n 2 dR_ask_12 rfl rfl ?_
  obtain ⟨hi1, h⟩ := h
  refine st_18 hi1 dR_ask_13 ?_
  refine am_aload_n 1 dR_ask_14 rfl rfl ?_
  refine go_R_write dR_ask_15 (am_tw kw_116 rfl) ?_
  refine am_iload 0 dR_ask_18 rfl ?_
  refine am_iload_n 3 dR_ask_20 rfl rfl ?_
  obtain ⟨hi2, h⟩ := h
  refine st_19 hi2 dR_ask_21 ?_
  refine am_aload_n 1 dR_ask_22 rfl rfl ?_
  refine go_R_bits dR_ask_23 (am_tw kw_118 rfl) ?_
  refine am_iload 0 dR_ask_26 rfl ?_
  refine am_lload_n 4 dR_ask_28 rfl rfl ?_
  obtain ⟨hi3, h⟩ := h
  refine st_20 hi3 dR_ask_29 ?_
  refine am_aload_n 1 dR_ask_30 rfl rfl ?_
  refine am_dup dR_ask_31 rfl ?_
  refine go_R_asked dR_ask_32 (am_tw kw_123 rfl) ?_
  refine am_iconst (v := 1) dR_ask_35 (by decide) ?_
  refine am_iadd dR_ask_36 ?_
  refine po_R_asked dR_ask_37 (am_tw kw_123 rfl) ?_
  refine am_iload 0 dR_ask_40 rfl ?_
  exact am_iret dR_ask_42 rfl (Nat.le_of_ble_eq_true rfl) (Nat.le_of_ble_eq_true rfl) ⟨_, _, _, rfl, rfl, h⟩
section
variable {l : Launch} {D : va_G} {aC : Nat → ClassId} {ad : Nat → Nat} {own : String} {cc : ByteArray} {nL : Nat} {ret : Option FieldType} {ini : Bool} {tb : List (Nat × Nat × Nat × Nat)} {G : State → (Nat → Prop) → Prop} {rm : Room} {mc ms k n pc idx : Nat} {L : List (Nat × Value)} {st rest : List Value} {I : am_MI} {J : am_MJ} {Q : Option Value → va_W → Prop} {X : String → va_W → Prop}
theorem kVN_R_ask {a0 : Int32} {a1 : Int32} {a2 : Int64} {K : Int32 → am_MI → am_MJ → Prop} (hd : decode cc pc = .ok (.invokevirtual idx, 3)) (hlink : Cond.methodLinkNest own idx yR_ask "BubbleBox" ∈ am_TN) (hcat : (rest.map fun v => v.category).sum ≤ 8) (hR : 1 + 1 ≤ rm.frames ∧ 8 + (6 + 11) + 38 * 1 ≤ rm.locals) (hk : k + 1 ≤ rm.cells ∧ n + 6 ≤ rm.slots) (hm : k ≤ mc ∧ n ≤ ms) (hlt : l.stackTraces = false) (h : w_R_ask a0 a1 a2 I J K (fun _ _ _ => False)) (kk : ∀ (r : Int32) (I1 : am_MI) (J1 : am_MJ), K r I1 J1 → am l D aC own cc nL ret ini tb G rm mc ms k n (pc + 3) L (.int r :: rest) (am_w ad aC I1 J1) Q X) : am l D aC own cc nL ret ini tb G rm mc ms k n pc L (.long a2 :: .int a1 :: .int a0 :: .ref (ad 17) :: rest) (am_w ad aC I J) Q X := by
  refine am_callVN 17 5 (As := [.int a0, .int a1, .long a2]) (N9 := 3) (am_cF (t_R_ask hlt h)) hd rfl (am_w_at ad aC I J (by omega)) rfl hlink (am_tw kw_615 rfl) (am_tw kw_614 rfl) ks_46 (am_tw kw_5 rfl) (by decide +kernel) rfl hcat ⟨rfl, rfl⟩ hR hk ?_
  intro v ws1 hq
  obtain ⟨r, I1, J1, rfl, rfl, hq⟩ := hq
  exact kk r I1 J1 hq
end
def w_R_begin_2 (x1 : Int32) (I : am_MI) (J : am_MJ) (Q : am_MI → am_MJ → Prop) (X : String → am_MI → am_MJ → Prop) : Prop :=
  ∀ P2 : Int32 → am_MI → am_MJ → Prop, (∀ (x1 : Int32) (I : am_MI) (J : am_MJ), (((I 17 5) ≤ x1 → (Q (am_ui (am_ui I 17 6 (I 17 5)) 17 5 (0 : Int32)) J)) ∧ (¬ ((I 17 5) ≤ x1) → (vp_in x1 16 ∧ (vp_in x1 16 ∧ (P2 (x1 + 1) (am_ui I 21 x1.toNatClampNeg (vp_nar .boolean (1 : Int32))) (am_uj J 22 x1.toNatClampNeg (0 : Int64))))))) → P2 x1 I J) → P2 x1 I J
set_option maxRecDepth 20000 in
theorem t_R_begin_2 {l : Launch} {D : va_G} {aC : Nat → ClassId} {ad : Nat → Nat} (hlt : l.stackTraces = false) {x1 : Int32} {I : am_MI} {J : am_MJ} {Q} {X} (h : w_R_begin_2 x1 I J Q X) : am l D aC "BubbleBox$Requests" cR_begin 2 none false [] am_G0 (am_rm 1) 0 0 0 0 2 [(0, .ref (ad 17)), (1, .int x1)] [] (am_w ad aC I J) (am_lv ad aC Q) (am_lx ad aC X) := by
  unfold w_R_begin_2 at h
  refine h (fun (x1 : Int32) (I : am_MI) (J : am_MJ) => am l D aC "BubbleBox$Requests" cR_begin 2 none false [] am_G0 (am_rm 1) 0 0 0 0 2 [(0, .ref (ad 17)), (1, .int x1)] [] (am_w ad aC I J) (am_lv ad aC Q) (am_lx ad aC X)) (fun x1 I J h => ?_)
  refine am_iload_n 1 dR_begin_2 rfl rfl ?_
  refine am_aload_n 0 dR_begin_3 rfl rfl ?_
  refine go_R_asked dR_begin_4 (am_tw kw_123 rfl) ?_
  refine am_icmp_ge 30 dR_begin_7 (by decide) (fun hc1 => ?_) (fun hc1 => ?_)
  · replace h := h.1 hc1
    refine am_aload_n 0 dR_begin_30 rfl rfl ?_
    refine am_aload_n 0 dR_begin_31 rfl rfl ?_
    refine go_R_asked dR_begin_32 (am_tw kw_123 rfl) ?_
    refine po_R_answered dR_begin_35 (am_tw kw_125 rfl) ?_
    refine am_aload_n 0 dR_begin_38 rfl rfl ?_
    refine am_iconst (v := 0) dR_begin_39 (by decide) ?_
    refine po_R_asked dR_begin_40 (am_tw kw_123 rfl) ?_
    exact am_vret dR_begin_43 rfl (Nat.le_of_ble_eq_true rfl) (Nat.le_of_ble_eq_true rfl) ⟨_, _, rfl, rfl, h⟩
  · replace h := h.2 hc1
    refine am_aload_n 0 dR_begin_10 rfl rfl ?_
    refine go_R_waiting dR_begin_11 (am_tw kw_120 rfl) ?_
    refine am_iload_n 1 dR_begin_14 rfl rfl ?_
    refine am_iconst (v := 1) dR_begin_15 (by decide) ?_
    obtain ⟨hi2, h⟩ := h
    refine st_21 hi2 dR_begin_16 ?_
    refine am_aload_n 0 dR_begin_17 rfl rfl ?_
    refine go_R_answers dR_begin_18 (am_tw kw_121 rfl) ?_
    refine am_iload_n 1 dR_begin_21 rfl rfl ?_
    refine am_lconst (v := 0) dR_begin_22 (by decide) ?_
    obtain ⟨hi3, h⟩ := h
    refine st_22 hi3 dR_begin_23 ?_
    refine am_iinc (j := 1) (v := x1 + 1) (L2 := [(1, .int (x1 + 1)), (0, .ref (ad 17))]) dR_begin_24 rfl (congrArg (x1 + ·) (by decide : Int32.ofInt (1) = 1)) (Nat.le_of_ble_eq_true rfl) rfl ?_
    refine am_goto 2 dR_begin_27 (by decide) ?_
    exact am_sub [1, 0] rfl h

def w_R_begin (I : am_MI) (J : am_MJ) (Q : am_MI → am_MJ → Prop) (X : String → am_MI → am_MJ → Prop) : Prop :=
  w_R_begin_2 (0 : Int32) I J Q X
set_option maxRecDepth 20000 in
theorem t_R_begin {l : Launch} {D : va_G} {aC : Nat → ClassId} {ad : Nat → Nat} (hlt : l.stackTraces = false) {I : am_MI} {J : am_MJ} {Q} {X} (h : w_R_begin I J Q X) : am_c l D aC yR_begin (.code yR_begin cR_begin 2 none) (am_rm 1) 0 0 [.ref (ad 17)] (am_w ad aC I J) (am_lv ad aC Q) (am_lx ad aC X) := by
  unfold w_R_begin at h
  refine am_of (ini := false) hlt (by decide +kernel) (Nat.le_of_ble_eq_true rfl) (fun h => nomatch h) ?_
  show am l D aC "BubbleBox$Requests" cR_begin 2 none false [] am_G0 (am_rm 1) 0 0 0 0 0 [(0, .ref (ad 17))] [] (am_w ad aC I J) (am_lv ad aC Q) (am_lx ad aC X)
  refine am_iconst (v := 0) dR_begin_0 (by decide) ?_
  refine am_istore_n (L2 := [(1, .int 0), (0, .ref (ad 17))]) dR_begin_1 rfl (Nat.le_of_ble_eq_true rfl) rfl ?_
  exact am_sub [1, 0] rfl (t_R_begin_2 hlt h)
section
variable {l : Launch} {D : va_G} {aC : Nat → ClassId} {ad : Nat → Nat} {own : String} {cc : ByteArray} {nL : Nat} {ret : Option FieldType} {ini : Bool} {tb : List (Nat × Nat × Nat × Nat)} {G : State → (Nat → Prop) → Prop} {rm : Room} {mc ms k n pc idx : Nat} {L : List (Nat × Value)} {st rest : List Value} {I : am_MI} {J : am_MJ} {Q : Option Value → va_W → Prop} {X : String → va_W → Prop}
theorem kVN_R_begin {K : am_MI → am_MJ → Prop} (hd : decode cc pc = .ok (.invokevirtual idx, 3)) (hlink : Cond.methodLinkNest own idx yR_begin "BubbleBox" ∈ am_TN) (hcat : (rest.map fun v => v.category).sum ≤ 8) (hR : 1 + 1 ≤ rm.frames ∧ 8 + (2 + 11) + 38 * 1 ≤ rm.locals) (hk : k + 1 ≤ rm.cells ∧ n + 6 ≤ rm.slots) (hm : k ≤ mc ∧ n ≤ ms) (hlt : l.stackTraces = false) (h : w_R_begin I J K (fun _ _ _ => False)) (kk : ∀ (I1 : am_MI) (J1 : am_MJ), K I1 J1 → am l D aC own cc nL ret ini tb G rm mc ms k n (pc + 3) L rest (am_w ad aC I1 J1) Q X) : am l D aC own cc nL ret ini tb G rm mc ms k n pc L (.ref (ad 17) :: rest) (am_w ad aC I J) Q X := by
  refine am_callVN 17 5 (As := []) (N9 := 0) (am_cF (t_R_begin hlt h)) hd rfl (am_w_at ad aC I J (by omega)) rfl hlink (am_tw kw_626 rfl) (am_tw kw_625 rfl) ks_47 (am_tw kw_5 rfl) (by decide +kernel) rfl hcat ⟨rfl, rfl⟩ hR hk ?_
  intro v ws1 hq
  obtain ⟨I1, J1, rfl, rfl, hq⟩ := hq
  exact kk I1 J1 hq
end

def w_R_forget (I : am_MI) (J : am_MJ) (Q : am_MI → am_MJ → Prop) (X : String → am_MI → am_MJ → Prop) : Prop :=
  Q (am_ui (am_ui I 17 5 (0 : Int32)) 17 6 (0 : Int32)) J
set_option maxRecDepth 20000 in
theorem t_R_forget {l : Launch} {D : va_G} {aC : Nat → ClassId} {ad : Nat → Nat} (hlt : l.stackTraces = false) {I : am_MI} {J : am_MJ} {Q} {X} (h : w_R_forget I J Q X) : am_c l D aC yR_forget (.code yR_forget cR_forget 1 none) (am_rm 1) 0 0 [.ref (ad 17)] (am_w ad aC I J) (am_lv ad aC Q) (am_lx ad aC X) := by
  unfold w_R_forget at h
  refine am_of (ini := false) hlt (by decide +kernel) (Nat.le_of_ble_eq_true rfl) (fun h => nomatch h) ?_
  show am l D aC "BubbleBox$Requests" cR_forget 1 none false [] am_G0 (am_rm 1) 0 0 0 0 0 [(0, .ref (ad 17))] [] (am_w ad aC I J) (am_lv ad aC Q) (am_lx ad aC X)
  refine am_aload_n 0 dR_forget_0 rfl rfl ?_
  refine am_iconst (v := 0) dR_forget_1 (by decide) ?_
  refine po_R_asked dR_forget_2 (am_tw kw_123 rfl) ?_
  refine am_aload_n 0 dR_forget_5 rfl rfl ?_
  refine am_iconst (v := 0) dR_forget_6 (by decide) ?_
  refine po_R_answered dR_forget_7 (am_tw kw_125 rfl) ?_
  exact am_vret dR_forget_10 rfl (Nat.le_of_ble_eq_true rfl) (Nat.le_of_ble_eq_true rfl) ⟨_, _, rfl, rfl, h⟩
section
variable {l : Launch} {D : va_G} {aC : Nat → ClassId} {ad : Nat → Nat} {own : String} {cc : ByteArray} {nL : Nat} {ret : Option FieldType} {ini : Bool} {tb : List (Nat × Nat × Nat × Nat)} {G : State → (Nat → Prop) → Prop} {rm : Room} {mc ms k n pc idx : Nat} {L : List (Nat × Value)} {st rest : List Value} {I : am_MI} {J : am_MJ} {Q : Option Value → va_W → Prop} {X : String → va_W → Prop}
theorem kVN_R_forget {K : am_MI → am_MJ → Prop} (hd : decode cc pc = .ok (.invokevirtual idx, 3)) (hlink : Cond.methodLinkNest own idx yR_forget "BubbleBox" ∈ am_TN) (hcat : (rest.map fun v => v.category).sum ≤ 8) (hR : 1 + 1 ≤ rm.frames ∧ 8 + (1 + 11) + 38 * 1 ≤ rm.locals) (hk : k + 1 ≤ rm.cells ∧ n + 6 ≤ rm.slots) (hm : k ≤ mc ∧ n ≤ ms) (hlt : l.stackTraces = false) (h : w_R_forget I J K (fun _ _ _ => False)) (kk : ∀ (I1 : am_MI) (J1 : am_MJ), K I1 J1 → am l D aC own cc nL ret ini tb G rm mc ms k n (pc + 3) L rest (am_w ad aC I1 J1) Q X) : am l D aC own cc nL ret ini tb G rm mc ms k n pc L (.ref (ad 17) :: rest) (am_w ad aC I J) Q X := by
  refine am_callVN 17 5 (As := []) (N9 := 0) (am_cF (t_R_forget hlt h)) hd rfl (am_w_at ad aC I J (by omega)) rfl hlink (am_tw kw_214 rfl) (am_tw kw_213 rfl) ks_4 (am_tw kw_5 rfl) (by decide +kernel) rfl hcat ⟨rfl, rfl⟩ hR hk ?_
  intro v ws1 hq
  obtain ⟨I1, J1, rfl, rfl, hq⟩ := hq
  exact kk I1 J1 hq
end

def w_C_turnTo (a0 : Int32) (I : am_MI) (J : am_MJ) (Q : am_MI → am_MJ → Prop) (X : String → am_MI → am_MJ → Prop) : Prop :=
  w_C_stepsTo a0 I J (fun (r3 : Int32) (I1 : am_MI) (J2 : am_MJ) => Q (am_ui I1 1 3 a0) (am_uj J2 1 4 ((J 1 4) + r3.toInt64))) X
set_option maxRecDepth 20000 in
theorem t_C_turnTo {l : Launch} {D : va_G} {aC : Nat → ClassId} {ad : Nat → Nat} (hlt : l.stackTraces = false) {a0 : Int32} {I : am_MI} {J : am_MJ} {Q} {X} (h : w_C_turnTo a0 I J Q X) : am_c l D aC yC_turnTo (.code yC_turnTo cC_turnTo 2 none) (am_rm 2) 0 0 [.ref (ad 1), .int a0] (am_w ad aC I J) (am_lv ad aC Q) (am_lx ad aC X) := by
  unfold w_C_turnTo at h
  refine am_of (ini := false) hlt (by decide +kernel) (Nat.le_of_ble_eq_true rfl) (fun h => nomatch h) ?_
  show am l D aC "BubbleBox$Chip" cC_turnTo 2 none false [] am_G0 (am_rm 2) 0 0 0 0 0 [(0, .ref (ad 1)), (1, .int a0)] [] (am_w ad aC I J) (am_lv ad aC Q) (am_lx ad aC X)
  refine am_aload_n 0 dC_turnTo_0 rfl rfl ?_
  refine am_dup dC_turnTo_1 rfl ?_
  refine go_C_stepsTaken dC_turnTo_2 (am_tw kw_36 rfl) ?_
  refine am_aload_n 0 dC_turnTo_5 rfl rfl ?_
  refine am_iload_n 1 dC_turnTo_6 rfl rfl ?_
  refine kV_C_stepsTo dC_turnTo_7 (am_tw kw_300 rfl) (Nat.le_of_ble_eq_true rfl) ⟨Nat.le_of_ble_eq_true rfl, Nat.le_of_ble_eq_true rfl⟩ ⟨Nat.le_of_ble_eq_true rfl, Nat.le_of_ble_eq_true rfl⟩ ⟨Nat.le_of_ble_eq_true rfl, Nat.le_of_ble_eq_true rfl⟩ hlt h (fun r3 I1 J2 h => ?_)
  refine am_i2l dC_turnTo_10 ?_
  refine am_ladd dC_turnTo_11 ?_
  refine po_C_stepsTaken dC_turnTo_12 (am_tw kw_36 rfl) ?_
  refine am_aload_n 0 dC_turnTo_15 rfl rfl ?_
  refine am_iload_n 1 dC_turnTo_16 rfl rfl ?_
  refine po_C_position dC_turnTo_17 (am_tw kw_35 rfl) ?_
  exact am_vret dC_turnTo_20 rfl (Nat.le_of_ble_eq_true rfl) (Nat.le_of_ble_eq_true rfl) ⟨_, _, rfl, rfl, h⟩
section
variable {l : Launch} {D : va_G} {aC : Nat → ClassId} {ad : Nat → Nat} {own : String} {cc : ByteArray} {nL : Nat} {ret : Option FieldType} {ini : Bool} {tb : List (Nat × Nat × Nat × Nat)} {G : State → (Nat → Prop) → Prop} {rm : Room} {mc ms k n pc idx : Nat} {L : List (Nat × Value)} {st rest : List Value} {I : am_MI} {J : am_MJ} {Q : Option Value → va_W → Prop} {X : String → va_W → Prop}
theorem kVN_C_turnTo {a0 : Int32} {K : am_MI → am_MJ → Prop} (hd : decode cc pc = .ok (.invokevirtual idx, 3)) (hlink : Cond.methodLinkNest own idx yC_turnTo "BubbleBox" ∈ am_TN) (hcat : (rest.map fun v => v.category).sum ≤ 8) (hR : 2 + 1 ≤ rm.frames ∧ 8 + (2 + 11) + 38 * 2 ≤ rm.locals) (hk : k + 1 ≤ rm.cells ∧ n + 6 ≤ rm.slots) (hm : k ≤ mc ∧ n ≤ ms) (hlt : l.stackTraces = false) (h : w_C_turnTo a0 I J K (fun _ _ _ => False)) (kk : ∀ (I1 : am_MI) (J1 : am_MJ), K I1 J1 → am l D aC own cc nL ret ini tb G rm mc ms k n (pc + 3) L rest (am_w ad aC I1 J1) Q X) : am l D aC own cc nL ret ini tb G rm mc ms k n pc L (.int a0 :: .ref (ad 1) :: rest) (am_w ad aC I J) Q X := by
  refine am_callVN 1 1 (As := [.int a0]) (N9 := 1) (am_cF (t_C_turnTo hlt h)) hd rfl (am_w_at ad aC I J (by omega)) rfl hlink (am_tw kw_299 rfl) (am_tw kw_298 rfl) ks_9 (am_tw kw_2 rfl) (by decide +kernel) rfl hcat ⟨rfl, rfl⟩ hR hk ?_
  intro v ws1 hq
  obtain ⟨I1, J1, rfl, rfl, hq⟩ := hq
  exact kk I1 J1 hq
end

def w_E_forget (e0 : Nat) (I : am_MI) (J : am_MJ) (Q : am_MI → am_MJ → Prop) (X : String → am_MI → am_MJ → Prop) : Prop :=
  w_E_openWindow e0 (0 : Int32) (0 : Int64) (am_ui (am_ui (am_ui I (6 + e0) 0 (0 : Int32)) (6 + e0) 1 (0 : Int32)) (6 + e0) 2 (0 : Int32)) J (fun (I1 : am_MI) (J2 : am_MJ) => Q I1 J2) X
set_option maxRecDepth 20000 in
theorem t_E_forget {l : Launch} {D : va_G} {aC : Nat → ClassId} {ad : Nat → Nat} (hlt : l.stackTraces = false) {e0 : Nat} (he0 : e0 < 8) {I : am_MI} {J : am_MJ} {Q} {X} (h : w_E_forget e0 I J Q X) : am_c l D aC yE_forget (.code yE_forget cE_forget 1 none) (am_rm 2) 0 0 [.ref (ad (6 + e0))] (am_w ad aC I J) (am_lv ad aC Q) (am_lx ad aC X) := by
  unfold w_E_forget at h
  refine am_of (ini := false) hlt (by decide +kernel) (Nat.le_of_ble_eq_true rfl) (fun h => nomatch h) ?_
  show am l D aC "BubbleBox$Entry" cE_forget 1 none false [] am_G0 (am_rm 2) 0 0 0 0 0 [(0, .ref (ad (6 + e0)))] [] (am_w ad aC I J) (am_lv ad aC Q) (am_lx ad aC X)
  refine am_aload_n 0 dE_forget_0 rfl rfl ?_
  refine am_iconst (v := 0) dE_forget_1 (by decide) ?_
  refine po_E_name he0 dE_forget_2 (am_tw kw_64 rfl) ?_
  refine am_aload_n 0 dE_forget_5 rfl rfl ?_
  refine am_iconst (v := 0) dE_forget_6 (by decide) ?_
  refine po_E_firstPage he0 dE_forget_7 (am_tw kw_67 rfl) ?_
  refine am_aload_n 0 dE_forget_10 rfl rfl ?_
  refine am_iconst (v := 0) dE_forget_11 (by decide) ?_
  refine po_E_bytes he0 dE_forget_12 (am_tw kw_69 rfl) ?_
  refine am_aload_n 0 dE_forget_15 rfl rfl ?_
  refine am_iconst (v := 0) dE_forget_16 (by decide) ?_
  refine am_lconst (v := 0) dE_forget_17 (by decide) ?_
  refine kV_E_openWindow he0 dE_forget_18 (am_tw kw_207 rfl) (Nat.le_of_ble_eq_true rfl) ⟨Nat.le_of_ble_eq_true rfl, Nat.le_of_ble_eq_true rfl⟩ ⟨Nat.le_of_ble_eq_true rfl, Nat.le_of_ble_eq_true rfl⟩ ⟨Nat.le_of_ble_eq_true rfl, Nat.le_of_ble_eq_true rfl⟩ hlt h (fun I1 J2 h => ?_)
  exact am_vret dE_forget_21 rfl (Nat.le_of_ble_eq_true rfl) (Nat.le_of_ble_eq_true rfl) ⟨_, _, rfl, rfl, h⟩
section
variable {l : Launch} {D : va_G} {aC : Nat → ClassId} {ad : Nat → Nat} {own : String} {cc : ByteArray} {nL : Nat} {ret : Option FieldType} {ini : Bool} {tb : List (Nat × Nat × Nat × Nat)} {G : State → (Nat → Prop) → Prop} {rm : Room} {mc ms k n pc idx : Nat} {L : List (Nat × Value)} {st rest : List Value} {I : am_MI} {J : am_MJ} {Q : Option Value → va_W → Prop} {X : String → va_W → Prop}
theorem kVN_E_forget {e0 : Nat} {K : am_MI → am_MJ → Prop} (he0 : e0 < 8) (hd : decode cc pc = .ok (.invokevirtual idx, 3)) (hlink : Cond.methodLinkNest own idx yE_forget "BubbleBox" ∈ am_TN) (hcat : (rest.map fun v => v.category).sum ≤ 8) (hR : 2 + 1 ≤ rm.frames ∧ 8 + (1 + 11) + 38 * 2 ≤ rm.locals) (hk : k + 1 ≤ rm.cells ∧ n + 6 ≤ rm.slots) (hm : k ≤ mc ∧ n ≤ ms) (hlt : l.stackTraces = false) (h : w_E_forget e0 I J K (fun _ _ _ => False)) (kk : ∀ (I1 : am_MI) (J1 : am_MJ), K I1 J1 → am l D aC own cc nL ret ini tb G rm mc ms k n (pc + 3) L rest (am_w ad aC I1 J1) Q X) : am l D aC own cc nL ret ini tb G rm mc ms k n pc L (.ref (ad (6 + e0)) :: rest) (am_w ad aC I J) Q X := by
  refine am_callVN (6 + e0) 3 (As := []) (N9 := 0) (am_cF (t_E_forget hlt he0 h)) hd rfl ((am_w_at ad aC I J (by omega)).trans (by rw [am_cellE ad aC he0])) rfl hlink (am_tw kw_206 rfl) (am_tw kw_205 rfl) ks_2 (am_tw kw_4 rfl) (by decide +kernel) rfl hcat ⟨rfl, rfl⟩ hR hk ?_
  intro v ws1 hq
  obtain ⟨I1, J1, rfl, rfl, hq⟩ := hq
  exact kk I1 J1 hq
end
def w_I_dueSum_4 (z0 : Nat) (x1 : Int32) (x2 : Int32) (I : am_MI) (J : am_MJ) (Q : Int32 → am_MI → am_MJ → Prop) (X : String → am_MI → am_MJ → Prop) : Prop :=
  ∀ P4 : Int32 → Int32 → am_MI → am_MJ → Prop, (∀ (x1 : Int32) (x2 : Int32) (I : am_MI) (J : am_MJ), (((158 : Int32) ≤ x2 → (Q x1 I J)) ∧ (¬ ((158 : Int32) ≤ x2) → (w_I_number z0 x2 (1 : Int32) I J (fun (r4 : Int32) (I2 : am_MI) (J3 : am_MJ) => P4 (x1 + r4) (x2 + 1) I2 J3) X))) → P4 x1 x2 I J) → P4 x1 x2 I J
set_option maxRecDepth 20000 in
theorem t_I_dueSum_4 {l : Launch} {D : va_G} {aC : Nat → ClassId} {ad : Nat → Nat} (hlt : l.stackTraces = false) {z0 : Nat} {x1 : Int32} {x2 : Int32} (hz0 : z0 < 2) {I : am_MI} {J : am_MJ} {Q} {X} (h : w_I_dueSum_4 z0 x1 x2 I J Q X) : am l D aC "BubbleBox$Image" cI_dueSum 3 (some .int) false [] am_G0 (am_rm 2) 0 0 0 0 4 [(0, .ref (ad (24 + 2 * z0))), (1, .int x1), (2, .int x2)] [] (am_w ad aC I J) (am_li ad aC Q) (am_lx ad aC X) := by
  unfold w_I_dueSum_4 at h
  refine h (fun (x1 : Int32) (x2 : Int32) (I : am_MI) (J : am_MJ) => am l D aC "BubbleBox$Image" cI_dueSum 3 (some .int) false [] am_G0 (am_rm 2) 0 0 0 0 4 [(0, .ref (ad (24 + 2 * z0))), (1, .int x1), (2, .int x2)] [] (am_w ad aC I J) (am_li ad aC Q) (am_lx ad aC X)) (fun x1 x2 I J h => ?_)
  refine am_iload_n 2 dI_dueSum_4 rfl rfl ?_
  refine am_sipush (v := 158) dI_dueSum_5 (by decide) ?_
  refine am_icmp_ge 26 dI_dueSum_8 (by decide) (fun hc1 => ?_) (fun hc1 => ?_)
  · replace h := h.1 hc1
    refine am_iload_n 1 dI_dueSum_26 rfl rfl ?_
    exact am_iret dI_dueSum_27 rfl (Nat.le_of_ble_eq_true rfl) (Nat.le_of_ble_eq_true rfl) ⟨_, _, _, rfl, rfl, h⟩
  · replace h := h.2 hc1
    refine am_iload_n 1 dI_dueSum_11 rfl rfl ?_
    refine am_aload_n 0 dI_dueSum_12 rfl rfl ?_
    refine am_iload_n 2 dI_dueSum_13 rfl rfl ?_
    refine am_iconst (v := 1) dI_dueSum_14 (by decide) ?_
    refine kV_I_number hz0 dI_dueSum_15 (am_tw kw_312 rfl) (Nat.le_of_ble_eq_true rfl) ⟨Nat.le_of_ble_eq_true rfl, Nat.le_of_ble_eq_true rfl⟩ ⟨Nat.le_of_ble_eq_true rfl, Nat.le_of_ble_eq_true rfl⟩ ⟨Nat.le_of_ble_eq_true rfl, Nat.le_of_ble_eq_true rfl⟩ hlt h (fun r4 I2 J3 h => ?_)
    refine am_iadd dI_dueSum_18 ?_
    refine am_istore_n (L2 := [(1, .int (x1 + r4)), (0, .ref (ad (24 + 2 * z0))), (2, .int x2)]) dI_dueSum_19 rfl (Nat.le_of_ble_eq_true rfl) rfl ?_
    refine am_iinc (j := 2) (v := x2 + 1) (L2 := [(2, .int (x2 + 1)), (1, .int (x1 + r4)), (0, .ref (ad (24 + 2 * z0)))]) dI_dueSum_20 rfl (congrArg (x2 + ·) (by decide : Int32.ofInt (1) = 1)) (Nat.le_of_ble_eq_true rfl) rfl ?_
    refine am_goto 4 dI_dueSum_23 (by decide) ?_
    exact am_sub [2, 1, 0] rfl h

def w_I_dueSum (g0 : Nat) (I : am_MI) (J : am_MJ) (Q : Int32 → am_MI → am_MJ → Prop) (X : String → am_MI → am_MJ → Prop) : Prop :=
  w_I_dueSum_4 g0 (1 : Int32) (0 : Int32) I J Q X
set_option maxRecDepth 20000 in
theorem t_I_dueSum {l : Launch} {D : va_G} {aC : Nat → ClassId} {ad : Nat → Nat} (hlt : l.stackTraces = false) {g0 : Nat} (hg0 : g0 < 2) {I : am_MI} {J : am_MJ} {Q} {X} (h : w_I_dueSum g0 I J Q X) : am_c l D aC yI_dueSum (.code yI_dueSum cI_dueSum 3 (some .int)) (am_rm 2) 0 0 [.ref (ad (24 + 2 * g0))] (am_w ad aC I J) (am_li ad aC Q) (am_lx ad aC X) := by
  unfold w_I_dueSum at h
  refine am_of (ini := false) hlt (by decide +kernel) (Nat.le_of_ble_eq_true rfl) (fun h => nomatch h) ?_
  show am l D aC "BubbleBox$Image" cI_dueSum 3 (some .int) false [] am_G0 (am_rm 2) 0 0 0 0 0 [(0, .ref (ad (24 + 2 * g0)))] [] (am_w ad aC I J) (am_li ad aC Q) (am_lx ad aC X)
  refine am_iconst (v := 1) dI_dueSum_0 (by decide) ?_
  refine am_istore_n (L2 := [(1, .int 1), (0, .ref (ad (24 + 2 * g0)))]) dI_dueSum_1 rfl (Nat.le_of_ble_eq_true rfl) rfl ?_
  refine am_iconst (v := 0) dI_dueSum_2 (by decide) ?_
  refine am_istore_n (L2 := [(2, .int 0), (1, .int 1), (0, .ref (ad (24 + 2 * g0)))]) dI_dueSum_3 rfl (Nat.le_of_ble_eq_true rfl) rfl ?_
  exact am_sub [2, 1, 0] rfl (t_I_dueSum_4 hlt hg0 h)
section
variable {l : Launch} {D : va_G} {aC : Nat → ClassId} {ad : Nat → Nat} {own : String} {cc : ByteArray} {nL : Nat} {ret : Option FieldType} {ini : Bool} {tb : List (Nat × Nat × Nat × Nat)} {G : State → (Nat → Prop) → Prop} {rm : Room} {mc ms k n pc idx : Nat} {L : List (Nat × Value)} {st rest : List Value} {I : am_MI} {J : am_MJ} {Q : Option Value → va_W → Prop} {X : String → va_W → Prop}
theorem kV_I_dueSum {g0 : Nat} {K : Int32 → am_MI → am_MJ → Prop} {X1 : String → am_MI → am_MJ → Prop} (hg0 : g0 < 2) (hd : decode cc pc = .ok (.invokevirtual idx, 3)) (hlink : Cond.methodLink own idx yI_dueSum ∈ am_TW) (hcat : (rest.map fun v => v.category).sum ≤ 8) (hR : 2 + 1 ≤ rm.frames ∧ 8 + (3 + 11) + 38 * 2 ≤ rm.locals) (hk : k + 1 ≤ rm.cells ∧ n + 6 ≤ rm.slots) (hm : k ≤ mc ∧ n ≤ ms) (hlt : l.stackTraces = false) (h : w_I_dueSum g0 I J K X1) (kk : ∀ (r : Int32) (I1 : am_MI) (J1 : am_MJ), K r I1 J1 → am l D aC own cc nL ret ini [] G rm mc ms k n (pc + 3) L (.int r :: rest) (am_w ad aC I1 J1) Q (am_lx ad aC X1)) : am l D aC own cc nL ret ini [] G rm mc ms k n pc L (.ref (ad (24 + 2 * g0)) :: rest) (am_w ad aC I J) Q (am_lx ad aC X1) := by
  refine am_callV (24 + 2 * g0) 4 (As := []) (N9 := 0) (t_I_dueSum hlt hg0 h) hd rfl ((am_w_at ad aC I J (by omega)).trans (by rw [am_cellI ad aC hg0])) rfl hlink (am_tw kw_319 rfl) (am_tw kw_318 rfl) ks_14 (am_tw kw_6 rfl) (by decide +kernel) rfl hcat ⟨rfl, rfl⟩ hR hk (fun E ws1 hx => am_out (fun x hx => nomatch hx) (Nat.add_le_add_right hm.1 1) (Nat.add_le_add_right hm.2 6) hx) ?_
  intro v ws1 hq
  obtain ⟨r, I1, J1, rfl, rfl, hq⟩ := hq
  exact kk r I1 J1 hq
end
section
variable {l : Launch} {D : va_G} {aC : Nat → ClassId} {ad : Nat → Nat} {own : String} {cc : ByteArray} {nL : Nat} {ret : Option FieldType} {ini : Bool} {tb : List (Nat × Nat × Nat × Nat)} {G : State → (Nat → Prop) → Prop} {rm : Room} {mc ms k n pc idx : Nat} {L : List (Nat × Value)} {st rest : List Value} {I : am_MI} {J : am_MJ} {Q : Option Value → va_W → Prop} {X : String → va_W → Prop}
theorem kVN_I_dueSum {g0 : Nat} {K : Int32 → am_MI → am_MJ → Prop} (hg0 : g0 < 2) (hd : decode cc pc = .ok (.invokevirtual idx, 3)) (hlink : Cond.methodLinkNest own idx yI_dueSum "BubbleBox" ∈ am_TN) (hcat : (rest.map fun v => v.category).sum ≤ 8) (hR : 2 + 1 ≤ rm.frames ∧ 8 + (3 + 11) + 38 * 2 ≤ rm.locals) (hk : k + 1 ≤ rm.cells ∧ n + 6 ≤ rm.slots) (hm : k ≤ mc ∧ n ≤ ms) (hlt : l.stackTraces = false) (h : w_I_dueSum g0 I J K (fun _ _ _ => False)) (kk : ∀ (r : Int32) (I1 : am_MI) (J1 : am_MJ), K r I1 J1 → am l D aC own cc nL ret ini tb G rm mc ms k n (pc + 3) L (.int r :: rest) (am_w ad aC I1 J1) Q X) : am l D aC own cc nL ret ini tb G rm mc ms k n pc L (.ref (ad (24 + 2 * g0)) :: rest) (am_w ad aC I J) Q X := by
  refine am_callVN (24 + 2 * g0) 4 (As := []) (N9 := 0) (am_cF (t_I_dueSum hlt hg0 h)) hd rfl ((am_w_at ad aC I J (by omega)).trans (by rw [am_cellI ad aC hg0])) rfl hlink (am_tw kw_319 rfl) (am_tw kw_318 rfl) ks_14 (am_tw kw_6 rfl) (by decide +kernel) rfl hcat ⟨rfl, rfl⟩ hR hk ?_
  intro v ws1 hq
  obtain ⟨r, I1, J1, rfl, rfl, hq⟩ := hq
  exact kk r I1 J1 hq
end

def w_I_pageNumber (g0 : Nat) (a0 : Int32) (I : am_MI) (J : am_MJ) (Q : Int32 → am_MI → am_MJ → Prop) (X : String → am_MI → am_MJ → Prop) : Prop :=
  w_I_number g0 a0 (1 : Int32) I J (fun (r3 : Int32) (I1 : am_MI) (J2 : am_MJ) => ((101 : Int32) ≤ r3 → (Q 0 I1 J2)) ∧ (¬ ((101 : Int32) ≤ r3) → (Q r3 I1 J2))) X
set_option maxRecDepth 20000 in
theorem t_I_pageNumber {l : Launch} {D : va_G} {aC : Nat → ClassId} {ad : Nat → Nat} (hlt : l.stackTraces = false) {g0 : Nat} {a0 : Int32} (hg0 : g0 < 2) {I : am_MI} {J : am_MJ} {Q} {X} (h : w_I_pageNumber g0 a0 I J Q X) : am_c l D aC yI_pageNumber (.code yI_pageNumber cI_pageNumber 3 (some .int)) (am_rm 2) 0 0 [.ref (ad (24 + 2 * g0)), .int a0] (am_w ad aC I J) (am_li ad aC Q) (am_lx ad aC X) := by
  unfold w_I_pageNumber at h
  refine am_of (ini := false) hlt (by decide +kernel) (Nat.le_of_ble_eq_true rfl) (fun h => nomatch h) ?_
  show am l D aC "BubbleBox$Image" cI_pageNumber 3 (some .int) false [] am_G0 (am_rm 2) 0 0 0 0 0 [(0, .ref (ad (24 + 2 * g0))), (1, .int a0)] [] (am_w ad aC I J) (am_li ad aC Q) (am_lx ad aC X)
  refine am_aload_n 0 dI_pageNumber_0 rfl rfl ?_
  refine am_iload_n 1 dI_pageNumber_1 rfl rfl ?_
  refine am_iconst (v := 1) dI_pageNumber_2 (by decide) ?_
  refine kV_I_number hg0 dI_pageNumber_3 (am_tw kw_312 rfl) (Nat.le_of_ble_eq_true rfl) ⟨Nat.le_of_ble_eq_true rfl, Nat.le_of_ble_eq_true rfl⟩ ⟨Nat.le_of_ble_eq_true rfl, Nat.le_of_ble_eq_true rfl⟩ ⟨Nat.le_of_ble_eq_true rfl, Nat.le_of_ble_eq_true rfl⟩ hlt h (fun r3 I1 J2 h => ?_)
  refine am_istore_n (L2 := [(2, .int r3), (0, .ref (ad (24 + 2 * g0))), (1, .int a0)]) dI_pageNumber_6 rfl (Nat.le_of_ble_eq_true rfl) rfl ?_
  refine am_iload_n 0 dI_pageNumber_7 rfl rfl ?_
  refine am_bipush (v := 101) dI_pageNumber_8 (by decide) ?_
  refine am_icmp_ge 17 dI_pageNumber_10 (by decide) (fun hc4 => ?_) (fun hc4 => ?_)
  · replace h := h.1 hc4
    refine am_iconst (v := 0) dI_pageNumber_17 (by decide) ?_
    exact am_iret dI_pageNumber_18 rfl (Nat.le_of_ble_eq_true rfl) (Nat.le_of_ble_eq_true rfl) ⟨_, _, _, rfl, rfl, h⟩
  · replace h := h.2 hc4
    refine am_iload_n 0 dI_pageNumber_13 rfl rfl ?_
    refine am_goto 18 dI_pageNumber_14 (by decide) ?_
    exact am_iret dI_pageNumber_18 rfl (Nat.le_of_ble_eq_true rfl) (Nat.le_of_ble_eq_true rfl) ⟨_, _, _, rfl, rfl, h⟩
section
variable {l : Launch} {D : va_G} {aC : Nat → ClassId} {ad : Nat → Nat} {own : String} {cc : ByteArray} {nL : Nat} {ret : Option FieldType} {ini : Bool} {tb : List (Nat × Nat × Nat × Nat)} {G : State → (Nat → Prop) → Prop} {rm : Room} {mc ms k n pc idx : Nat} {L : List (Nat × Value)} {st rest : List Value} {I : am_MI} {J : am_MJ} {Q : Option Value → va_W → Prop} {X : String → va_W → Prop}
theorem kVN_I_pageNumber {g0 : Nat} {a0 : Int32} {K : Int32 → am_MI → am_MJ → Prop} (hg0 : g0 < 2) (hd : decode cc pc = .ok (.invokevirtual idx, 3)) (hlink : Cond.methodLinkNest own idx yI_pageNumber "BubbleBox" ∈ am_TN) (hcat : (rest.map fun v => v.category).sum ≤ 8) (hR : 2 + 1 ≤ rm.frames ∧ 8 + (3 + 11) + 38 * 2 ≤ rm.locals) (hk : k + 1 ≤ rm.cells ∧ n + 6 ≤ rm.slots) (hm : k ≤ mc ∧ n ≤ ms) (hlt : l.stackTraces = false) (h : w_I_pageNumber g0 a0 I J K (fun _ _ _ => False)) (kk : ∀ (r : Int32) (I1 : am_MI) (J1 : am_MJ), K r I1 J1 → am l D aC own cc nL ret ini tb G rm mc ms k n (pc + 3) L (.int r :: rest) (am_w ad aC I1 J1) Q X) : am l D aC own cc nL ret ini tb G rm mc ms k n pc L (.int a0 :: .ref (ad (24 + 2 * g0)) :: rest) (am_w ad aC I J) Q X := by
  refine am_callVN (24 + 2 * g0) 4 (As := [.int a0]) (N9 := 1) (am_cF (t_I_pageNumber hlt hg0 h)) hd rfl ((am_w_at ad aC I J (by omega)).trans (by rw [am_cellI ad aC hg0])) rfl hlink (am_tw kw_328 rfl) (am_tw kw_327 rfl) ks_16 (am_tw kw_6 rfl) (by decide +kernel) rfl hcat ⟨rfl, rfl⟩ hR hk ?_
  intro v ws1 hq
  obtain ⟨r, I1, J1, rfl, rfl, hq⟩ := hq
  exact kk r I1 J1 hq
end
def w_R_takeNearest_8 (x2 : Int32) (x3 : Int32) (x4 : Int32) (I : am_MI) (J : am_MJ) (Q : Int32 → am_MI → am_MJ → Prop) (X : String → am_MI → am_MJ → Prop) : Prop :=
  ∀ P8 : Int32 → Int32 → Int32 → am_MI → am_MJ → Prop, (∀ (x2 : Int32) (x3 : Int32) (x4 : Int32) (I : am_MI) (J : am_MJ), (((I 17 6) ≤ x4 → ((x2 = ((-1) : Int32) → (Q x2 I J)) ∧ (¬ (x2 = ((-1) : Int32)) → (vp_in x2 16 ∧ (Q x2 (am_ui I 21 x2.toNatClampNeg (vp_nar .boolean (0 : Int32))) J))))) ∧ (¬ ((I 17 6) ≤ x4) → (vp_in x4 16 ∧ (w_C_stepsTo (I 18 x4.toNatClampNeg) I J (fun (r7 : Int32) (I5 : am_MI) (J6 : am_MJ) => vp_in x4 16 ∧ (((I5 21 x4.toNatClampNeg) = 0 → (P8 x2 x3 (x4 + 1) I5 J6)) ∧ (¬ ((I5 21 x4.toNatClampNeg) = 0) → ((x3 ≤ r7 → (P8 x2 x3 (x4 + 1) I5 J6)) ∧ (¬ (x3 ≤ r7) → (P8 x4 r7 (x4 + 1) I5 J6)))))) (fun _ _ _ => False))))) → P8 x2 x3 x4 I J) → P8 x2 x3 x4 I J
set_option maxRecDepth 20000 in
theorem t_R_takeNearest_8 {l : Launch} {D : va_G} {aC : Nat → ClassId} {ad : Nat → Nat} (hlt : l.stackTraces = false) {x2 : Int32} {x3 : Int32} {x4 : Int32} {I : am_MI} {J : am_MJ} {Q} {X} (h : w_R_takeNearest_8 x2 x3 x4 I J Q X) : am l D aC "BubbleBox$Requests" cR_takeNearest 6 (some .int) false [] am_G0 (am_rm 2) 0 0 0 0 8 [(0, .ref (ad 17)), (1, .ref (ad 1)), (2, .int x2), (3, .int x3), (4, .int x4)] [] (am_w ad aC I J) (am_li ad aC Q) (am_lx ad aC X) := by
  unfold w_R_takeNearest_8 at h
  refine h (fun (x2 : Int32) (x3 : Int32) (x4 : Int32) (I : am_MI) (J : am_MJ) => am l D aC "BubbleBox$Requests" cR_takeNearest 6 (some .int) false [] am_G0 (am_rm 2) 0 0 0 0 8 [(0, .ref (ad 17)), (1, .ref (ad 1)), (2, .int x2), (3, .int x3), (4, .int x4)] [] (am_w ad aC I J) (am_li ad aC Q) (am_lx ad aC X)) (fun x2 x3 x4 I J h => ?_)
  refine am_iload 4 dR_takeNearest_8 rfl ?_
  refine am_aload_n 0 dR_takeNearest_10 rfl rfl ?_
  refine go_R_answered dR_takeNearest_11 (am_tw kw_125 rfl) ?_
  refine am_icmp_ge 58 dR_takeNearest_14 (by decide) (fun hc1 => ?_) (fun hc1 => ?_)
  · replace h := h.1 hc1
    refine am_iload_n 2 dR_takeNearest_58 rfl rfl ?_
    refine am_iconst (v := (-1)) dR_takeNearest_59 (by decide) ?_
    refine am_icmp_eq 70 dR_takeNearest_60 (by decide) (fun hc2 => ?_) (fun hc2 => ?_)
    · replace h := h.1 hc2
      refine am_iload_n 2 dR_takeNearest_70 rfl rfl ?_
      exact am_iret dR_takeNearest_71 rfl (Nat.le_of_ble_eq_true rfl) (Nat.le_of_ble_eq_true rfl) ⟨_, _, _, rfl, rfl, h⟩
    · replace h := h.2 hc2
      refine am_aload_n 0 dR_takeNearest_63 rfl rfl ?_
      refine go_R_waiting dR_takeNearest_64 (am_tw kw_120 rfl) ?_
      refine am_iload_n 2 dR_takeNearest_67 rfl rfl ?_
      refine am_iconst (v := 0) dR_takeNearest_68 (by decide) ?_
      obtain ⟨hi3, h⟩ := h
      refine st_21 hi3 dR_takeNearest_69 ?_
      refine am_iload_n 2 dR_takeNearest_70 rfl rfl ?_
      exact am_iret dR_takeNearest_71 rfl (Nat.le_of_ble_eq_true rfl) (Nat.le_of_ble_eq_true rfl) ⟨_, _, _, rfl, rfl, h⟩
  · replace h := h.2 hc1
    refine am_aload_n 1 dR_takeNearest_17 rfl rfl ?_
    refine am_aload_n 0 dR_takeNearest_18 rfl rfl ?_
    refine go_R_page dR_takeNearest_19 (am_tw kw_114 rfl) ?_
    refine am_iload 4 dR_takeNearest_22 rfl ?_
    obtain ⟨hi4, h⟩ := h
    refine ld_18 hi4 dR_takeNearest_24 ?_
    refine kVN_C_stepsTo dR_takeNearest_25 (am_tn kw_631 rfl) (Nat.le_of_ble_eq_true rfl) ⟨Nat.le_of_ble_eq_true rfl, Nat.le_of_ble_eq_true rfl⟩ ⟨Nat.le_of_ble_eq_true rfl, Nat.le_of_ble_eq_true rfl⟩ ⟨Nat.le_of_ble_eq_true rfl, Nat.le_of_ble_eq_true rfl⟩ hlt h (fun r7 I5 J6 h => ?_)
    refine am_istore (L2 := [(5, .int r7), (0, .ref (ad 17)), (1, .ref (ad 1)), (2, .int x2), (3, .int x3), (4, .int x4)]) dR_takeNearest_28 (Nat.le_of_ble_eq_true rfl) rfl ?_
    refine am_aload_n 1 dR_takeNearest_30 rfl rfl ?_
    refine go_R_waiting dR_takeNearest_31 (am_tw kw_120 rfl) ?_
    refine am_iload 5 dR_takeNearest_34 rfl ?_
    obtain ⟨hi8, h⟩ := h
    refine ld_21 hi8 dR_takeNearest_36 ?_
    refine am_if_eq 52 dR_takeNearest_37 (by decide) (fun hc9 => ?_) (fun hc9 => ?_)
    · replace h := h.1 hc9
      refine am_iinc (j := 5) (v := x4 + 1) (L2 := [(4, .int (x4 + 1)), (5, .int r7), (0, .ref (ad 17)), (1, .ref (ad 1)), (2, .int x2), (3, .int x3)]) dR_takeNearest_52 rfl (congrArg (x4 + ·) (by decide : Int32.ofInt (1) = 1)) (Nat.le_of_ble_eq_true rfl) rfl ?_
      refine am_goto 8 dR_takeNearest_55 (by decide) ?_
      exact am_sub [2, 3, 4, 5, 0] rfl h
    · replace h := h.2 hc9
      refine am_iload 0 dR_takeNearest_40 rfl ?_
      refine am_iload_n 4 dR_takeNearest_42 rfl rfl ?_
      refine am_icmp_ge 52 dR_takeNearest_43 (by decide) (fun hc10 => ?_) (fun hc10 => ?_)
      · replace h := h.1 hc10
        refine am_iinc (j := 5) (v := x4 + 1) (L2 := [(4, .int (x4 + 1)), (5, .int r7), (0, .ref (ad 17)), (1, .ref (ad 1)), (2, .int x2), (3, .int x3)]) dR_takeNearest_52 rfl (congrArg (x4 + ·) (by decide : Int32.ofInt (1) = 1)) (Nat.le_of_ble_eq_true rfl) rfl ?_
        refine am_goto 8 dR_takeNearest_55 (by decide) ?_
        exact am_sub [2, 3, 4, 5, 0] rfl h
      · replace h := h.2 hc10
        refine am_iload 5 dR_takeNearest_46 rfl ?_
        refine am_istore_n (L2 := [(2, .int x4), (5, .int r7), (0, .ref (ad 17)), (1, .ref (ad 1)), (3, .int x3), (4, .int x4)]) dR_takeNearest_48 rfl (Nat.le_of_ble_eq_true rfl) rfl ?_
        refine am_iload 1 dR_takeNearest_49 rfl ?_
        refine am_istore_n (L2 := [(3, .int r7), (2, .int x4), (5, .int r7), (0, .ref (ad 17)), (1, .ref (ad 1)), (4, .int x4)]) dR_takeNearest_51 rfl (Nat.le_of_ble_eq_true rfl) rfl ?_
        refine am_iinc (j := 5) (v := x4 + 1) (L2 := [(4, .int (x4 + 1)), (3, .int r7), (2, .int x4), (5, .int r7), (0, .ref (ad 17)), (1, .ref (ad 1))]) dR_takeNearest_52 rfl (congrArg (x4 + ·) (by decide : Int32.ofInt (1) = 1)) (Nat.le_of_ble_eq_true rfl) rfl ?_
        refine am_goto 8 dR_takeNearest_55 (by decide) ?_
        exact am_sub [4, 5, 2, 1, 0] rfl h

def w_R_takeNearest (I : am_MI) (J : am_MJ) (Q : Int32 → am_MI → am_MJ → Prop) (X : String → am_MI → am_MJ → Prop) : Prop :=
  w_R_takeNearest_8 ((-1) : Int32) (101 : Int32) (0 : Int32) I J Q X
set_option maxRecDepth 20000 in
theorem t_R_takeNearest {l : Launch} {D : va_G} {aC : Nat → ClassId} {ad : Nat → Nat} (hlt : l.stackTraces = false) {I : am_MI} {J : am_MJ} {Q} {X} (h : w_R_takeNearest I J Q X) : am_c l D aC yR_takeNearest (.code yR_takeNearest cR_takeNearest 6 (some .int)) (am_rm 2) 0 0 [.ref (ad 17), .ref (ad 1)] (am_w ad aC I J) (am_li ad aC Q) (am_lx ad aC X) := by
  unfold w_R_takeNearest at h
  refine am_of (ini := false) hlt (by decide +kernel) (Nat.le_of_ble_eq_true rfl) (fun h => nomatch h) ?_
  show am l D aC "BubbleBox$Requests" cR_takeNearest 6 (some .int) false [] am_G0 (am_rm 2) 0 0 0 0 0 [(0, .ref (ad 17)), (1, .ref (ad 1))] [] (am_w ad aC I J) (am_li ad aC Q) (am_lx ad aC X)
  refine am_iconst (v := (-1)) dR_takeNearest_0 (by decide) ?_
  refine am_istore_n (L2 := [(2, .int (-1)), (0, .ref (ad 17)), (1, .ref (ad 1))]) dR_takeNearest_1 rfl (Nat.le_of_ble_eq_true rfl) rfl ?_
  refine am_bipush (v := 101) dR_takeNearest_2 (by decide) ?_
  refine am_istore_n (L2 := [(3, .int 101), (2, .int (-1)), (0, .ref (ad 17)), (1, .ref (ad 1))]) dR_takeNearest_4 rfl (Nat.le_of_ble_eq_true rfl) rfl ?_
  refine am_iconst (v := 0) dR_takeNearest_5 (by decide) ?_
  refine am_istore (L2 := [(4, .int 0), (3, .int 101), (2, .int (-1)), (0, .ref (ad 17)), (1, .ref (ad 1))]) dR_takeNearest_6 (Nat.le_of_ble_eq_true rfl) rfl ?_
  exact am_sub [3, 4, 2, 1, 0] rfl (t_R_takeNearest_8 hlt h)
section
variable {l : Launch} {D : va_G} {aC : Nat → ClassId} {ad : Nat → Nat} {own : String} {cc : ByteArray} {nL : Nat} {ret : Option FieldType} {ini : Bool} {tb : List (Nat × Nat × Nat × Nat)} {G : State → (Nat → Prop) → Prop} {rm : Room} {mc ms k n pc idx : Nat} {L : List (Nat × Value)} {st rest : List Value} {I : am_MI} {J : am_MJ} {Q : Option Value → va_W → Prop} {X : String → va_W → Prop}
theorem kVN_R_takeNearest {K : Int32 → am_MI → am_MJ → Prop} (hd : decode cc pc = .ok (.invokevirtual idx, 3)) (hlink : Cond.methodLinkNest own idx yR_takeNearest "BubbleBox" ∈ am_TN) (hcat : (rest.map fun v => v.category).sum ≤ 8) (hR : 2 + 1 ≤ rm.frames ∧ 8 + (6 + 11) + 38 * 2 ≤ rm.locals) (hk : k + 1 ≤ rm.cells ∧ n + 6 ≤ rm.slots) (hm : k ≤ mc ∧ n ≤ ms) (hlt : l.stackTraces = false) (h : w_R_takeNearest I J K (fun _ _ _ => False)) (kk : ∀ (r : Int32) (I1 : am_MI) (J1 : am_MJ), K r I1 J1 → am l D aC own cc nL ret ini tb G rm mc ms k n (pc + 3) L (.int r :: rest) (am_w ad aC I1 J1) Q X) : am l D aC own cc nL ret ini tb G rm mc ms k n pc L (.ref (ad 1) :: .ref (ad 17) :: rest) (am_w ad aC I J) Q X := by
  refine am_callVN 17 5 (As := [.ref (ad 1)]) (N9 := 1) (am_cF (t_R_takeNearest hlt h)) hd rfl (am_w_at ad aC I J (by omega)) rfl hlink (am_tw kw_630 rfl) (am_tw kw_629 rfl) ks_48 (am_tw kw_5 rfl) (by decide +kernel) rfl hcat ⟨rfl, rfl⟩ hR hk ?_
  intro v ws1 hq
  obtain ⟨r, I1, J1, rfl, rfl, hq⟩ := hq
  exact kk r I1 J1 hq
end

def w_I_isValid (g0 : Nat) (I : am_MI) (J : am_MJ) (Q : Int32 → am_MI → am_MJ → Prop) (X : String → am_MI → am_MJ → Prop) : Prop :=
  w_I_number g0 (158 : Int32) (2 : Int32) I J (fun (r3 : Int32) (I1 : am_MI) (J2 : am_MJ) => w_I_dueSum g0 I1 J2 (fun (r6 : Int32) (I4 : am_MI) (J5 : am_MJ) => (¬ r3 = r6 → (Q 0 I4 J5)) ∧ (r3 = r6 → (Q 1 I4 J5))) X) X
set_option maxRecDepth 20000 in
theorem t_I_isValid {l : Launch} {D : va_G} {aC : Nat → ClassId} {ad : Nat → Nat} (hlt : l.stackTraces = false) {g0 : Nat} (hg0 : g0 < 2) {I : am_MI} {J : am_MJ} {Q} {X} (h : w_I_isValid g0 I J Q X) : am_c l D aC yI_isValid (.code yI_isValid cI_isValid 1 (some .boolean)) (am_rm 3) 0 0 [.ref (ad (24 + 2 * g0))] (am_w ad aC I J) (am_li ad aC Q) (am_lx ad aC X) := by
  unfold w_I_isValid at h
  refine am_of (ini := false) hlt (by decide +kernel) (Nat.le_of_ble_eq_true rfl) (fun h => nomatch h) ?_
  show am l D aC "BubbleBox$Image" cI_isValid 1 (some .boolean) false [] am_G0 (am_rm 3) 0 0 0 0 0 [(0, .ref (ad (24 + 2 * g0)))] [] (am_w ad aC I J) (am_li ad aC Q) (am_lx ad aC X)
  refine am_aload_n 0 dI_isValid_0 rfl rfl ?_
  refine am_sipush (v := 158) dI_isValid_1 (by decide) ?_
  refine am_iconst (v := 2) dI_isValid_4 (by decide) ?_
  refine kV_I_number hg0 dI_isValid_5 (am_tw kw_312 rfl) (Nat.le_of_ble_eq_true rfl) ⟨Nat.le_of_ble_eq_true rfl, Nat.le_of_ble_eq_true rfl⟩ ⟨Nat.le_of_ble_eq_true rfl, Nat.le_of_ble_eq_true rfl⟩ ⟨Nat.le_of_ble_eq_true rfl, Nat.le_of_ble_eq_true rfl⟩ hlt h (fun r3 I1 J2 h => ?_)
  refine am_aload_n 0 dI_isValid_8 rfl rfl ?_
  refine kV_I_dueSum hg0 dI_isValid_9 (am_tw kw_316 rfl) (Nat.le_of_ble_eq_true rfl) ⟨Nat.le_of_ble_eq_true rfl, Nat.le_of_ble_eq_true rfl⟩ ⟨Nat.le_of_ble_eq_true rfl, Nat.le_of_ble_eq_true rfl⟩ ⟨Nat.le_of_ble_eq_true rfl, Nat.le_of_ble_eq_true rfl⟩ hlt h (fun r6 I4 J5 h => ?_)
  refine am_icmp_ne 19 dI_isValid_12 (by decide) (fun hc7 => ?_) (fun hc7 => ?_)
  · replace h := h.1 hc7
    refine am_iconst (v := 0) dI_isValid_19 (by decide) ?_
    exact am_zret dI_isValid_20 rfl (Nat.le_of_ble_eq_true rfl) (Nat.le_of_ble_eq_true rfl) (by decide) ⟨_, _, _, rfl, rfl, h⟩
  · replace h := h.2 hc7
    refine am_iconst (v := 1) dI_isValid_15 (by decide) ?_
    refine am_goto 20 dI_isValid_16 (by decide) ?_
    exact am_zret dI_isValid_20 rfl (Nat.le_of_ble_eq_true rfl) (Nat.le_of_ble_eq_true rfl) (by decide) ⟨_, _, _, rfl, rfl, h⟩
section
variable {l : Launch} {D : va_G} {aC : Nat → ClassId} {ad : Nat → Nat} {own : String} {cc : ByteArray} {nL : Nat} {ret : Option FieldType} {ini : Bool} {tb : List (Nat × Nat × Nat × Nat)} {G : State → (Nat → Prop) → Prop} {rm : Room} {mc ms k n pc idx : Nat} {L : List (Nat × Value)} {st rest : List Value} {I : am_MI} {J : am_MJ} {Q : Option Value → va_W → Prop} {X : String → va_W → Prop}
theorem kVN_I_isValid {g0 : Nat} {K : Int32 → am_MI → am_MJ → Prop} (hg0 : g0 < 2) (hd : decode cc pc = .ok (.invokevirtual idx, 3)) (hlink : Cond.methodLinkNest own idx yI_isValid "BubbleBox" ∈ am_TN) (hcat : (rest.map fun v => v.category).sum ≤ 8) (hR : 3 + 1 ≤ rm.frames ∧ 8 + (1 + 11) + 38 * 3 ≤ rm.locals) (hk : k + 1 ≤ rm.cells ∧ n + 6 ≤ rm.slots) (hm : k ≤ mc ∧ n ≤ ms) (hlt : l.stackTraces = false) (h : w_I_isValid g0 I J K (fun _ _ _ => False)) (kk : ∀ (r : Int32) (I1 : am_MI) (J1 : am_MJ), K r I1 J1 → am l D aC own cc nL ret ini tb G rm mc ms k n (pc + 3) L (.int r :: rest) (am_w ad aC I1 J1) Q X) : am l D aC own cc nL ret ini tb G rm mc ms k n pc L (.ref (ad (24 + 2 * g0)) :: rest) (am_w ad aC I J) Q X := by
  refine am_callVN (24 + 2 * g0) 4 (As := []) (N9 := 0) (am_cF (t_I_isValid hlt hg0 h)) hd rfl ((am_w_at ad aC I J (by omega)).trans (by rw [am_cellI ad aC hg0])) rfl hlink (am_tw kw_311 rfl) (am_tw kw_310 rfl) ks_12 (am_tw kw_6 rfl) (by decide +kernel) rfl hcat ⟨rfl, rfl⟩ hR hk ?_
  intro v ws1 hq
  obtain ⟨r, I1, J1, rfl, rfl, hq⟩ := hq
  exact kk r I1 J1 hq
end
