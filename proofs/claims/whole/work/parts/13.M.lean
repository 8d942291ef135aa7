
def w_M_drop (a0 : Int32) (I : am_MI) (J : am_MJ) (Q : am_MI → am_MJ → Prop) (X : String → am_MI → am_MJ → Prop) : Prop :=
  vp_in a0 8 ∧ (vp_in a0 8 ∧ (vp_in a0 8 ∧ (vp_in a0 8 ∧ (Q (am_ui (am_ui (am_ui (am_ui I 31 a0.toNatClampNeg (0 : Int32)) 32 a0.toNatClampNeg (0 : Int32)) 34 a0.toNatClampNeg ((-1) : Int32)) 36 a0.toNatClampNeg (vp_nar .boolean (0 : Int32))) J))))
set_option maxRecDepth 20000 in
theorem t_M_drop {l : Launch} {D : va_G} {aC : Nat → ClassId} {ad : Nat → Nat} (hlt : l.stackTraces = false) {a0 : Int32} {I : am_MI} {J : am_MJ} {Q} {X} (h : w_M_drop a0 I J Q X) : am_c l D aC yM_drop (.code yM_drop cM_drop 2 none) (am_rm 1) 0 0 [.ref (ad 28), .int a0] (am_w ad aC I J) (am_lv ad aC Q) (am_lx ad aC X) := by
  unfold w_M_drop at h
  refine am_of (ini := false) hlt (by decide +kernel) (Nat.le_of_ble_eq_true rfl) (fun h => nomatch h) ?_
  show am l D aC "BubbleBoxModel" cM_drop 2 none false [] am_G0 (am_rm 1) 0 0 0 0 0 [(0, .ref (ad 28)), (1, .int a0)] [] (am_w ad aC I J) (am_lv ad aC Q) (am_lx ad aC X)
  refine am_aload_n 0 dM_drop_0 rfl rfl ?_
  refine go_M_name dM_drop_1 (am_tw kw_668 rfl) ?_
  refine am_iload_n 1 dM_drop_4 rfl rfl ?_
  refine am_iconst (v := 0) dM_drop_5 (by decide) ?_
  obtain ⟨hi1, h⟩ := h
  refine st_31 hi1 dM_drop_6 ?_
  refine am_aload_n 0 dM_drop_7 rfl rfl ?_
  refine go_M_length dM_drop_8 (am_tw kw_669 rfl) ?_
  refine am_iload_n 1 dM_drop_11 rfl rfl ?_
  refine am_iconst (v := 0) dM_drop_12 (by decide) ?_
  obtain ⟨hi2, h⟩ := h
  refine st_32 hi2 dM_drop_13 ?_
  refine am_aload_n 0 dM_drop_14 rfl rfl ?_
  refine go_M_windowPage dM_drop_15 (am_tw kw_671 rfl) ?_
  refine am_iload_n 1 dM_drop_18 rfl rfl ?_
  refine am_iconst (v := (-1)) dM_drop_19 (by decide) ?_
  obtain ⟨hi3, h⟩ := h
  refine st_34 hi3 dM_drop_20 ?_
  refine am_aload_n 0 dM_drop_21 rfl rfl ?_
  refine go_M_changed dM_drop_22 (am_tw kw_673 rfl) ?_
  refine am_iload_n 1 dM_drop_25 rfl rfl ?_
  refine am_iconst (v := 0) dM_drop_26 (by decide) ?_
  obtain ⟨hi4, h⟩ := h
  refine st_36 hi4 dM_drop_27 ?_
  exact am_vret dM_drop_28 rfl (Nat.le_of_ble_eq_true rfl) (Nat.le_of_ble_eq_true rfl) ⟨_, _, rfl, rfl, h⟩
section
variable {l : Launch} {D : va_G} {aC : Nat → ClassId} {ad : Nat → Nat} {own : String} {cc : ByteArray} {nL : Nat} {ret : Option FieldType} {ini : Bool} {tb : List (Nat × Nat × Nat × Nat)} {G : State → (Nat → Prop) → Prop} {rm : Room} {mc ms k n pc idx : Nat} {L : List (Nat × Value)} {st rest : List Value} {I : am_MI} {J : am_MJ} {Q : Option Value → va_W → Prop} {X : String → va_W → Prop}
theorem kV_M_drop {a0 : Int32} {K : am_MI → am_MJ → Prop} {X1 : String → am_MI → am_MJ → Prop} (hd : decode cc pc = .ok (.invokevirtual idx, 3)) (hlink : Cond.methodLink own idx yM_drop ∈ am_TW) (hcat : (rest.map fun v => v.category).sum ≤ 8) (hR : 1 + 1 ≤ rm.frames ∧ 8 + (2 + 11) + 38 * 1 ≤ rm.locals) (hk : k + 1 ≤ rm.cells ∧ n + 6 ≤ rm.slots) (hm : k ≤ mc ∧ n ≤ ms) (hlt : l.stackTraces = false) (h : w_M_drop a0 I J K X1) (kk : ∀ (I1 : am_MI) (J1 : am_MJ), K I1 J1 → am l D aC own cc nL ret ini [] G rm mc ms k n (pc + 3) L rest (am_w ad aC I1 J1) Q (am_lx ad aC X1)) : am l D aC own cc nL ret ini [] G rm mc ms k n pc L (.int a0 :: .ref (ad 28) :: rest) (am_w ad aC I J) Q (am_lx ad aC X1) := by
  refine am_callV 28 6 (As := [.int a0]) (N9 := 1) (t_M_drop hlt h) hd rfl (am_w_at ad aC I J (by omega)) rfl hlink (am_tw kw_658 rfl) (am_tw kw_657 rfl) ks_51 (am_tw kw_7 rfl) (by decide +kernel) rfl hcat ⟨rfl, rfl⟩ hR hk (fun E ws1 hx => am_out (fun x hx => nomatch hx) (Nat.add_le_add_right hm.1 1) (Nat.add_le_add_right hm.2 6) hx) ?_
  intro v ws1 hq
  obtain ⟨I1, J1, rfl, rfl, hq⟩ := hq
  exact kk I1 J1 hq
end
def w_M_getBytes_5 (x1 : Int32) (x2 : Int32) (x3 : Int32) (x4 : Int32) (I : am_MI) (J : am_MJ) (Q : Int32 → am_MI → am_MJ → Prop) (X : String → am_MI → am_MJ → Prop) : Prop :=
  ∀ P5 : Int32 → Int32 → am_MI → am_MJ → Prop, (∀ (x3 : Int32) (x4 : Int32) (I : am_MI) (J : am_MJ), ((x2 ≤ x4 → (Q x3 I J)) ∧ (¬ (x2 ≤ x4) → (vp_in (x1 + x4) 160 ∧ (P5 (x3 ||| ((I 38 (x1 + x4).toNatClampNeg) <<< (((8 : Int32) * x4) &&& 31))) (x4 + 1) I J)))) → P5 x3 x4 I J) → P5 x3 x4 I J
set_option maxRecDepth 20000 in
theorem t_M_getBytes_5 {l : Launch} {D : va_G} {aC : Nat → ClassId} {ad : Nat → Nat} (hlt : l.stackTraces = false) {x1 : Int32} {x2 : Int32} {x3 : Int32} {x4 : Int32} {I : am_MI} {J : am_MJ} {Q} {X} (h : w_M_getBytes_5 x1 x2 x3 x4 I J Q X) : am l D aC "BubbleBoxModel" cM_getBytes 5 (some .int) false [] am_G0 (am_rm 1) 0 0 0 0 5 [(0, .ref (ad 28)), (1, .int x1), (2, .int x2), (3, .int x3), (4, .int x4)] [] (am_w ad aC I J) (am_li ad aC Q) (am_lx ad aC X) := by
  unfold w_M_getBytes_5 at h
  refine h (fun (x3 : Int32) (x4 : Int32) (I : am_MI) (J : am_MJ) => am l D aC "BubbleBoxModel" cM_getBytes 5 (some .int) false [] am_G0 (am_rm 1) 0 0 0 0 5 [(0, .ref (ad 28)), (1, .int x1), (2, .int x2), (3, .int x3), (4, .int x4)] [] (am_w ad aC I J) (am_li ad aC Q) (am_lx ad aC X)) (fun x3 x4 I J h => ?_)
  refine am_iload 4 dM_getBytes_5 rfl ?_
  refine am_iload_n 2 dM_getBytes_7 rfl rfl ?_
  refine am_icmp_ge 35 dM_getBytes_8 (by decide) (fun hc1 => ?_) (fun hc1 => ?_)
  · replace h := h.1 hc1
    refine am_iload_n 3 dM_getBytes_35 rfl rfl ?_
    exact am_iret dM_getBytes_36 rfl (Nat.le_of_ble_eq_true rfl) (Nat.le_of_ble_eq_true rfl) ⟨_, _, _, rfl, rfl, h⟩
  · replace h := h.2 hc1
    refine am_iload_n 3 dM_getBytes_11 rfl rfl ?_
    refine am_aload_n 0 dM_getBytes_12 rfl rfl ?_
    refine go_M_image dM_getBytes_13 (am_tw kw_677 rfl) ?_
    refine am_iload_n 1 dM_getBytes_16 rfl rfl ?_
    refine am_iload 4 dM_getBytes_17 rfl ?_
    refine am_iadd dM_getBytes_19 ?_
    obtain ⟨hi2, h⟩ := h
    refine ld_38 hi2 dM_getBytes_20 ?_
    refine am_bipush (v := 8) dM_getBytes_21 (by decide) ?_
    refine am_iload 4 dM_getBytes_23 rfl ?_
    refine am_imul dM_getBytes_25 ?_
    refine am_ishl dM_getBytes_26 ?_
    refine am_ior dM_getBytes_27 ?_
    refine am_istore_n (L2 := [(3, .int (x3 ||| ((I 38 (x1 + x4).toNatClampNeg) <<< (((8 : Int32) * x4) &&& 31)))), (0, .ref (ad 28)), (1, .int x1), (2, .int x2), (4, .int x4)]) dM_getBytes_28 rfl (Nat.le_of_ble_eq_true rfl) rfl ?_
    refine am_iinc (j := 4) (v := x4 + 1) (L2 := [(4, .int (x4 + 1)), (3, .int (x3 ||| ((I 38 (x1 + x4).toNatClampNeg) <<< (((8 : Int32) * x4) &&& 31)))), (0, .ref (ad 28)), (1, .int x1), (2, .int x2)]) dM_getBytes_29 rfl (congrArg (x4 + ·) (by decide : Int32.ofInt (1) = 1)) (Nat.le_of_ble_eq_true rfl) rfl ?_
    refine am_goto 5 dM_getBytes_32 (by decide) ?_
    exact am_sub [2, 3, 4, 1, 0] rfl h

def w_M_getBytes (a0 : Int32) (a1 : Int32) (I : am_MI) (J : am_MJ) (Q : Int32 → am_MI → am_MJ → Prop) (X : String → am_MI → am_MJ → Prop) : Prop :=
  w_M_getBytes_5 a0 a1 (0 : Int32) (0 : Int32) I J Q X
set_option maxRecDepth 20000 in
theorem t_M_getBytes {l : Launch} {D : va_G} {aC : Nat → ClassId} {ad : Nat → Nat} (hlt : l.stackTraces = false) {a0 : Int32} {a1 : Int32} {I : am_MI} {J : am_MJ} {Q} {X} (h : w_M_getBytes a0 a1 I J Q X) : am_c l D aC yM_getBytes (.code yM_getBytes cM_getBytes 5 (some .int)) (am_rm 1) 0 0 [.ref (ad 28), .int a0, .int a1] (am_w ad aC I J) (am_li ad aC Q) (am_lx ad aC X) := by
  unfold w_M_getBytes at h
  refine am_of (ini := false) hlt (by decide +kernel) (Nat.le_of_ble_eq_true rfl) (fun h => nomatch h) ?_
  show am l D aC "BubbleBoxModel" cM_getBytes 5 (some .int) false [] am_G0 (am_rm 1) 0 0 0 0 0 [(0, .ref (ad 28)), (1, .int a0), (2, .int a1)] [] (am_w ad aC I J) (am_li ad aC Q) (am_lx ad aC X)
  refine am_iconst (v := 0) dM_getBytes_0 (by decide) ?_
  refine am_istore_n (L2 := [(3, .int 0), (0, .ref (ad 28)), (1, .int a0), (2, .int a1)]) dM_getBytes_1 rfl (Nat.le_of_ble_eq_true rfl) rfl ?_
  refine am_iconst (v := 0) dM_getBytes_2 (by decide) ?_
  refine am_istore (L2 := [(4, .int 0), (3, .int 0), (0, .ref (ad 28)), (1, .int a0), (2, .int a1)]) dM_getBytes_3 (Nat.le_of_ble_eq_true rfl) rfl ?_
  exact am_sub [2, 3, 4, 1, 0] rfl (t_M_getBytes_5 hlt h)
section
variable {l : Launch} {D : va_G} {aC : Nat → ClassId} {ad : Nat → Nat} {own : String} {cc : ByteArray} {nL : Nat} {ret : Option FieldType} {ini : Bool} {tb : List (Nat × Nat × Nat × Nat)} {G : State → (Nat → Prop) → Prop} {rm : Room} {mc ms k n pc idx : Nat} {L : List (Nat × Value)} {st rest : List Value} {I : am_MI} {J : am_MJ} {Q : Option Value → va_W → Prop} {X : String → va_W → Prop}
theorem kV_M_getBytes {a0 : Int32} {a1 : Int32} {K : Int32 → am_MI → am_MJ → Prop} {X1 : String → am_MI → am_MJ → Prop} (hd : decode cc pc = .ok (.invokevirtual idx, 3)) (hlink : Cond.methodLink own idx yM_getBytes ∈ am_TW) (hcat : (rest.map fun v => v.category).sum ≤ 8) (hR : 1 + 1 ≤ rm.frames ∧ 8 + (5 + 11) + 38 * 1 ≤ rm.locals) (hk : k + 1 ≤ rm.cells ∧ n + 6 ≤ rm.slots) (hm : k ≤ mc ∧ n ≤ ms) (hlt : l.stackTraces = false) (h : w_M_getBytes a0 a1 I J K X1) (kk : ∀ (r : Int32) (I1 : am_MI) (J1 : am_MJ), K r I1 J1 → am l D aC own cc nL ret ini [] G rm mc ms k n (pc + 3) L (.int r :: rest) (am_w ad aC I1 J1) Q (am_lx ad aC X1)) : am l D aC own cc nL ret ini [] G rm mc ms k n pc L (.int a1 :: .int a0 :: .ref (ad 28) :: rest) (am_w ad aC I J) Q (am_lx ad aC X1) := by
  refine am_callV 28 6 (As := [.int a0, .int a1]) (N9 := 2) (t_M_getBytes hlt h) hd rfl (am_w_at ad aC I J (by omega)) rfl hlink (am_tw kw_831 rfl) (am_tw kw_830 rfl) ks_66 (am_tw kw_7 rfl) (by decide +kernel) rfl hcat ⟨rfl, rfl⟩ hR hk (fun E ws1 hx => am_out (fun x hx => nomatch hx) (Nat.add_le_add_right hm.1 1) (Nat.add_le_add_right hm.2 6) hx) ?_
  intro v ws1 hq
  obtain ⟨r, I1, J1, rfl, rfl, hq⟩ := hq
  exact kk r I1 J1 hq
end

def w_M_isFile (a0 : Int32) (I : am_MI) (J : am_MJ) (Q : Int32 → am_MI → am_MJ → Prop) (X : String → am_MI → am_MJ → Prop) : Prop :=
  (a0 < 0 → (Q 0 I J)) ∧ (¬ (a0 < 0) → (((8 : Int32) ≤ a0 → (Q 0 I J)) ∧ (¬ ((8 : Int32) ≤ a0) → (vp_in a0 8 ∧ (((I 31 a0.toNatClampNeg) = 0 → (Q 0 I J)) ∧ (¬ ((I 31 a0.toNatClampNeg) = 0) → (Q 1 I J)))))))
set_option maxRecDepth 20000 in
theorem t_M_isFile {l : Launch} {D : va_G} {aC : Nat → ClassId} {ad : Nat → Nat} (hlt : l.stackTraces = false) {a0 : Int32} {I : am_MI} {J : am_MJ} {Q} {X} (h : w_M_isFile a0 I J Q X) : am_c l D aC yM_isFile (.code yM_isFile cM_isFile 2 (some .boolean)) (am_rm 1) 0 0 [.ref (ad 28), .int a0] (am_w ad aC I J) (am_li ad aC Q) (am_lx ad aC X) := by
  unfold w_M_isFile at h
  refine am_of (ini := false) hlt (by decide +kernel) (Nat.le_of_ble_eq_true rfl) (fun h => nomatch h) ?_
  show am l D aC "BubbleBoxModel" cM_isFile 2 (some .boolean) false [] am_G0 (am_rm 1) 0 0 0 0 0 [(0, .ref (ad 28)), (1, .int a0)] [] (am_w ad aC I J) (am_li ad aC Q) (am_lx ad aC X)
  refine am_iload_n 1 dM_isFile_0 rfl rfl ?_
  refine am_if_lt 23 dM_isFile_1 (by decide) (fun hc1 => ?_) (fun hc1 => ?_)
  · replace h := h.1 hc1
    refine am_iconst (v := 0) dM_isFile_23 (by decide) ?_
    exact am_zret dM_isFile_24 rfl (Nat.le_of_ble_eq_true rfl) (Nat.le_of_ble_eq_true rfl) (by decide) ⟨_, _, _, rfl, rfl, h⟩
  · replace h := h.2 hc1
    refine am_iload_n 1 dM_isFile_4 rfl rfl ?_
    refine am_bipush (v := 8) dM_isFile_5 (by decide) ?_
    refine am_icmp_ge 23 dM_isFile_7 (by decide) (fun hc2 => ?_) (fun hc2 => ?_)
    · replace h := h.1 hc2
      refine am_iconst (v := 0) dM_isFile_23 (by decide) ?_
      exact am_zret dM_isFile_24 rfl (Nat.le_of_ble_eq_true rfl) (Nat.le_of_ble_eq_true rfl) (by decide) ⟨_, _, _, rfl, rfl, h⟩
    · replace h := h.2 hc2
      refine am_aload_n 0 dM_isFile_10 rfl rfl ?_
      refine go_M_name dM_isFile_11 (am_tw kw_668 rfl) ?_
      refine am_iload_n 1 dM_isFile_14 rfl rfl ?_
      obtain ⟨hi3, h⟩ := h
      refine ld_31 hi3 dM_isFile_15 ?_
      refine am_if_eq 23 dM_isFile_16 (by decide) (fun hc4 => ?_) (fun hc4 => ?_)
      · replace h := h.1 hc4
        refine am_iconst (v := 0) dM_isFile_23 (by decide) ?_
        exact am_zret dM_isFile_24 rfl (Nat.le_of_ble_eq_true rfl) (Nat.le_of_ble_eq_true rfl) (by decide) ⟨_, _, _, rfl, rfl, h⟩
      · replace h := h.2 hc4
        refine am_iconst (v := 1) dM_isFile_19 (by decide) ?_
        refine am_goto 24 dM_isFile_20 (by decide) ?_
        exact am_zret dM_isFile_24 rfl (Nat.le_of_ble_eq_true rfl) (Nat.le_of_ble_eq_true rfl) (by decide) ⟨_, _, _, rfl, rfl, h⟩
section
variable {l : Launch} {D : va_G} {aC : Nat → ClassId} {ad : Nat → Nat} {own : String} {cc : ByteArray} {nL : Nat} {ret : Option FieldType} {ini : Bool} {tb : List (Nat × Nat × Nat × Nat)} {G : State → (Nat → Prop) → Prop} {rm : Room} {mc ms k n pc idx : Nat} {L : List (Nat × Value)} {st rest : List Value} {I : am_MI} {J : am_MJ} {Q : Option Value → va_W → Prop} {X : String → va_W → Prop}
theorem kV_M_isFile {a0 : Int32} {K : Int32 → am_MI → am_MJ → Prop} {X1 : String → am_MI → am_MJ → Prop} (hd : decode cc pc = .ok (.invokevirtual idx, 3)) (hlink : Cond.methodLink own idx yM_isFile ∈ am_TW) (hcat : (rest.map fun v => v.category).sum ≤ 8) (hR : 1 + 1 ≤ rm.frames ∧ 8 + (2 + 11) + 38 * 1 ≤ rm.locals) (hk : k + 1 ≤ rm.cells ∧ n + 6 ≤ rm.slots) (hm : k ≤ mc ∧ n ≤ ms) (hlt : l.stackTraces = false) (h : w_M_isFile a0 I J K X1) (kk : ∀ (r : Int32) (I1 : am_MI) (J1 : am_MJ), K r I1 J1 → am l D aC own cc nL ret ini [] G rm mc ms k n (pc + 3) L (.int r :: rest) (am_w ad aC I1 J1) Q (am_lx ad aC X1)) : am l D aC own cc nL ret ini [] G rm mc ms k n pc L (.int a0 :: .ref (ad 28) :: rest) (am_w ad aC I J) Q (am_lx ad aC X1) := by
  refine am_callV 28 6 (As := [.int a0]) (N9 := 1) (t_M_isFile hlt h) hd rfl (am_w_at ad aC I J (by omega)) rfl hlink (am_tw kw_855 rfl) (am_tw kw_854 rfl) ks_69 (am_tw kw_7 rfl) (by decide +kernel) rfl hcat ⟨rfl, rfl⟩ hR hk (fun E ws1 hx => am_out (fun x hx => nomatch hx) (Nat.add_le_add_right hm.1 1) (Nat.add_le_add_right hm.2 6) hx) ?_
  intro v ws1 hq
  obtain ⟨r, I1, J1, rfl, rfl, hq⟩ := hq
  exact kk r I1 J1 hq
end

def w_M_isReady (I : am_MI) (J : am_MJ) (Q : Int32 → am_MI → am_MJ → Prop) (X : String → am_MI → am_MJ → Prop) : Prop :=
  ((I 28 7) = 0 → (Q 0 I J)) ∧ (¬ ((I 28 7) = 0) → (((I 28 8) = 0 → (Q 0 I J)) ∧ (¬ ((I 28 8) = 0) → (Q 1 I J))))
set_option maxRecDepth 20000 in
theorem t_M_isReady {l : Launch} {D : va_G} {aC : Nat → ClassId} {ad : Nat → Nat} (hlt : l.stackTraces = false) {I : am_MI} {J : am_MJ} {Q} {X} (h : w_M_isReady I J Q X) : am_c l D aC yM_isReady (.code yM_isReady cM_isReady 1 (some .boolean)) (am_rm 1) 0 0 [.ref (ad 28)] (am_w ad aC I J) (am_li ad aC Q) (am_lx ad aC X) := by
  unfold w_M_isReady at h
  refine am_of (ini := false) hlt (by decide +kernel) (Nat.le_of_ble_eq_true rfl) (fun h => nomatch h) ?_
  show am l D aC "BubbleBoxModel" cM_isReady 1 (some .boolean) false [] am_G0 (am_rm 1) 0 0 0 0 0 [(0, .ref (ad 28))] [] (am_w ad aC I J) (am_li ad aC Q) (am_lx ad aC X)
  refine am_aload_n 0 dM_isReady_0 rfl rfl ?_
  refine go_M_on dM_isReady_1 (am_tw kw_666 rfl) ?_
  refine am_if_eq 18 dM_isReady_4 (by decide) (fun hc1 => ?_) (fun hc1 => ?_)
  · replace h := h.1 hc1
    refine am_iconst (v := 0) dM_isReady_18 (by decide) ?_
    exact am_zret dM_isReady_19 rfl (Nat.le_of_ble_eq_true rfl) (Nat.le_of_ble_eq_true rfl) (by decide) ⟨_, _, _, rfl, rfl, h⟩
  · replace h := h.2 hc1
    refine am_aload_n 0 dM_isReady_7 rfl rfl ?_
    refine go_M_mounted dM_isReady_8 (am_tw kw_667 rfl) ?_
    refine am_if_eq 18 dM_isReady_11 (by decide) (fun hc2 => ?_) (fun hc2 => ?_)
    · replace h := h.1 hc2
      refine am_iconst (v := 0) dM_isReady_18 (by decide) ?_
      exact am_zret dM_isReady_19 rfl (Nat.le_of_ble_eq_true rfl) (Nat.le_of_ble_eq_true rfl) (by decide) ⟨_, _, _, rfl, rfl, h⟩
    · replace h := h.2 hc2
      refine am_iconst (v := 1) dM_isReady_14 (by decide) ?_
      refine am_goto 19 dM_isReady_15 (by decide) ?_
      exact am_zret dM_isReady_19 rfl (Nat.le_of_ble_eq_true rfl) (Nat.le_of_ble_eq_true rfl) (by decide) ⟨_, _, _, rfl, rfl, h⟩
section
variable {l : Launch} {D : va_G} {aC : Nat → ClassId} {ad : Nat → Nat} {own : String} {cc : ByteArray} {nL : Nat} {ret : Option FieldType} {ini : Bool} {tb : List (Nat × Nat × Nat × Nat)} {G : State → (Nat → Prop) → Prop} {rm : Room} {mc ms k n pc idx : Nat} {L : List (Nat × Value)} {st rest : List Value} {I : am_MI} {J : am_MJ} {Q : Option Value → va_W → Prop} {X : String → va_W → Prop}
theorem kV_M_isReady {K : Int32 → am_MI → am_MJ → Prop} {X1 : String → am_MI → am_MJ → Prop} (hd : decode cc pc = .ok (.invokevirtual idx, 3)) (hlink : Cond.methodLink own idx yM_isReady ∈ am_TW) (hcat : (rest.map fun v => v.category).sum ≤ 8) (hR : 1 + 1 ≤ rm.frames ∧ 8 + (1 + 11) + 38 * 1 ≤ rm.locals) (hk : k + 1 ≤ rm.cells ∧ n + 6 ≤ rm.slots) (hm : k ≤ mc ∧ n ≤ ms) (hlt : l.stackTraces = false) (h : w_M_isReady I J K X1) (kk : ∀ (r : Int32) (I1 : am_MI) (J1 : am_MJ), K r I1 J1 → am l D aC own cc nL ret ini [] G rm mc ms k n (pc + 3) L (.int r :: rest) (am_w ad aC I1 J1) Q (am_lx ad aC X1)) : am l D aC own cc nL ret ini [] G rm mc ms k n pc L (.ref (ad 28) :: rest) (am_w ad aC I J) Q (am_lx ad aC X1) := by
  refine am_callV 28 6 (As := []) (N9 := 0) (t_M_isReady hlt h) hd rfl (am_w_at ad aC I J (by omega)) rfl hlink (am_tw kw_839 rfl) (am_tw kw_838 rfl) ks_67 (am_tw kw_7 rfl) (by decide +kernel) rfl hcat ⟨rfl, rfl⟩ hR hk (fun E ws1 hx => am_out (fun x hx => nomatch hx) (Nat.add_le_add_right hm.1 1) (Nat.add_le_add_right hm.2 6) hx) ?_
  intro v ws1 hq
  obtain ⟨r, I1, J1, rfl, rfl, hq⟩ := hq
  exact kk r I1 J1 hq
end
def w_M_numberOf_5 (x1 : Int32) (x2 : Int32) (x3 : Int32) (I : am_MI) (J : am_MJ) (Q : Int32 → am_MI → am_MJ → Prop) (X : String → am_MI → am_MJ → Prop) : Prop :=
  ∀ P5 : Int32 → Int32 → am_MI → am_MJ → Prop, (∀ (x2 : Int32) (x3 : Int32) (I : am_MI) (J : am_MJ), ((x3 < 0 → (Q x2 I J)) ∧ (¬ (x3 < 0) → (vp_in x3 8 ∧ (((I 31 x3.toNatClampNeg) = 0 → (P5 x2 (x3 + (-1)) I J)) ∧ (¬ ((I 31 x3.toNatClampNeg) = 0) → (vp_in x3 8 ∧ ((¬ (I 31 x3.toNatClampNeg) = x1 → (P5 x2 (x3 + (-1)) I J)) ∧ ((I 31 x3.toNatClampNeg) = x1 → (P5 x3 (x3 + (-1)) I J))))))))) → P5 x2 x3 I J) → P5 x2 x3 I J
set_option maxRecDepth 20000 in
theorem t_M_numberOf_5 {l : Launch} {D : va_G} {aC : Nat → ClassId} {ad : Nat → Nat} (hlt : l.stackTraces = false) {x1 : Int32} {x2 : Int32} {x3 : Int32} {I : am_MI} {J : am_MJ} {Q} {X} (h : w_M_numberOf_5 x1 x2 x3 I J Q X) : am l D aC "BubbleBoxModel" cM_numberOf 4 (some .int) false [] am_G0 (am_rm 1) 0 0 0 0 5 [(0, .ref (ad 28)), (1, .int x1), (2, .int x2), (3, .int x3)] [] (am_w ad aC I J) (am_li ad aC Q) (am_lx ad aC X) := by
  unfold w_M_numberOf_5 at h
  refine h (fun (x2 : Int32) (x3 : Int32) (I : am_MI) (J : am_MJ) => am l D aC "BubbleBoxModel" cM_numberOf 4 (some .int) false [] am_G0 (am_rm 1) 0 0 0 0 5 [(0, .ref (ad 28)), (1, .int x1), (2, .int x2), (3, .int x3)] [] (am_w ad aC I J) (am_li ad aC Q) (am_lx ad aC X)) (fun x2 x3 I J h => ?_)
  refine am_iload_n 3 dM_numberOf_5 rfl rfl ?_
  refine am_if_lt 40 dM_numberOf_6 (by decide) (fun hc1 => ?_) (fun hc1 => ?_)
  · replace h := h.1 hc1
    refine am_iload_n 2 dM_numberOf_40 rfl rfl ?_
    exact am_iret dM_numberOf_41 rfl (Nat.le_of_ble_eq_true rfl) (Nat.le_of_ble_eq_true rfl) ⟨_, _, _, rfl, rfl, h⟩
  · replace h := h.2 hc1
    refine am_aload_n 0 dM_numberOf_9 rfl rfl ?_
    refine go_M_name dM_numberOf_10 (am_tw kw_668 rfl) ?_
    refine am_iload_n 3 dM_numberOf_13 rfl rfl ?_
    obtain ⟨hi2, h⟩ := h
    refine ld_31 hi2 dM_numberOf_14 ?_
    refine am_if_eq 32 dM_numberOf_15 (by decide) (fun hc3 => ?_) (fun hc3 => ?_)
    · replace h := h.1 hc3
      refine am_iload_n 2 dM_numberOf_32 rfl rfl ?_
      refine am_istore_n (L2 := [(2, .int x2), (0, .ref (ad 28)), (1, .int x1), (3, .int x3)]) dM_numberOf_33 rfl (Nat.le_of_ble_eq_true rfl) rfl ?_
      refine am_iinc (j := 3) (v := x3 + (-1)) (L2 := [(3, .int (x3 + (-1))), (2, .int x2), (0, .ref (ad 28)), (1, .int x1)]) dM_numberOf_34 rfl (congrArg (x3 + ·) (by decide : Int32.ofInt (-1) = (-1))) (Nat.le_of_ble_eq_true rfl) rfl ?_
      refine am_goto 5 dM_numberOf_37 (by decide) ?_
      exact am_sub [2, 3, 1, 0] rfl h
    · replace h := h.2 hc3
      refine am_aload_n 0 dM_numberOf_18 rfl rfl ?_
      refine go_M_name dM_numberOf_19 (am_tw kw_668 rfl) ?_
      refine am_iload_n 3 dM_numberOf_22 rfl rfl ?_
      obtain ⟨hi4, h⟩ := h
      refine ld_31 hi4 dM_numberOf_23 ?_
      refine am_iload_n 1 dM_numberOf_24 rfl rfl ?_
      refine am_icmp_ne 32 dM_numberOf_25 (by decide) (fun hc5 => ?_) (fun hc5 => ?_)
      · replace h := h.1 hc5
        refine am_iload_n 2 dM_numberOf_32 rfl rfl ?_
        refine am_istore_n (L2 := [(2, .int x2), (0, .ref (ad 28)), (1, .int x1), (3, .int x3)]) dM_numberOf_33 rfl (Nat.le_of_ble_eq_true rfl) rfl ?_
        refine am_iinc (j := 3) (v := x3 + (-1)) (L2 := [(3, .int (x3 + (-1))), (2, .int x2), (0, .ref (ad 28)), (1, .int x1)]) dM_numberOf_34 rfl (congrArg (x3 + ·) (by decide : Int32.ofInt (-1) = (-1))) (Nat.le_of_ble_eq_true rfl) rfl ?_
        refine am_goto 5 dM_numberOf_37 (by decide) ?_
        exact am_sub [2, 3, 1, 0] rfl h
      · replace h := h.2 hc5
        refine am_iload_n 3 dM_numberOf_28 rfl rfl ?_
        refine am_goto 33 dM_numberOf_29 (by decide) ?_
        refine am_istore_n (L2 := [(2, .int x3), (0, .ref (ad 28)), (1, .int x1), (3, .int x3)]) dM_numberOf_33 rfl (Nat.le_of_ble_eq_true rfl) rfl ?_
        refine am_iinc (j := 3) (v := x3 + (-1)) (L2 := [(3, .int (x3 + (-1))), (2, .int x3), (0, .ref (ad 28)), (1, .int x1)]) dM_numberOf_34 rfl (congrArg (x3 + ·) (by decide : Int32.ofInt (-1) = (-1))) (Nat.le_of_ble_eq_true rfl) rfl ?_
        refine am_goto 5 dM_numberOf_37 (by decide) ?_
        exact am_sub [2, 3, 1, 0] rfl h

def w_M_numberOf (a0 : Int32) (I : am_MI) (J : am_MJ) (Q : Int32 → am_MI → am_MJ → Prop) (X : String → am_MI → am_MJ → Prop) : Prop :=
  w_M_numberOf_5 a0 ((-1) : Int32) (7 : Int32) I J Q X
set_option maxRecDepth 20000 in
theorem t_M_numberOf {l : Launch} {D : va_G} {aC : Nat → ClassId} {ad : Nat → Nat} (hlt : l.stackTraces = false) {a0 : Int32} {I : am_MI} {J : am_MJ} {Q} {X} (h : w_M_numberOf a0 I J Q X) : am_c l D aC yM_numberOf (.code yM_numberOf cM_numberOf 4 (some .int)) (am_rm 1) 0 0 [.ref (ad 28), .int a0] (am_w ad aC I J) (am_li ad aC Q) (am_lx ad aC X) := by
  unfold w_M_numberOf at h
  refine am_of (ini := false) hlt (by decide +kernel) (Nat.le_of_ble_eq_true rfl) (fun h => nomatch h) ?_
  show am l D aC "BubbleBoxModel" cM_numberOf 4 (some .int) false [] am_G0 (am_rm 1) 0 0 0 0 0 [(0, .ref (ad 28)), (1, .int a0)] [] (am_w ad aC I J) (am_li ad aC Q) (am_lx ad aC X)
  refine am_iconst (v := (-1)) dM_numberOf_0 (by decide) ?_
  refine am_istore_n (L2 := [(2, .int (-1)), (0, .ref (ad 28)), (1, .int a0)]) dM_numberOf_1 rfl (Nat.le_of_ble_eq_true rfl) rfl ?_
  refine am_bipush (v := 7) dM_numberOf_2 (by decide) ?_
  refine am_istore_n (L2 := [(3, .int 7), (2, .int (-1)), (0, .ref (ad 28)), (1, .int a0)]) dM_numberOf_4 rfl (Nat.le_of_ble_eq_true rfl) rfl ?_
  exact am_sub [2, 3, 1, 0] rfl (t_M_numberOf_5 hlt h)
section
variable {l : Launch} {D : va_G} {aC : Nat → ClassId} {ad : Nat → Nat} {own : String} {cc : ByteArray} {nL : Nat} {ret : Option FieldType} {ini : Bool} {tb : List (Nat × Nat × Nat × Nat)} {G : State → (Nat → Prop) → Prop} {rm : Room} {mc ms k n pc idx : Nat} {L : List (Nat × Value)} {st rest : List Value} {I : am_MI} {J : am_MJ} {Q : Option Value → va_W → Prop} {X : String → va_W → Prop}
theorem kV_M_numberOf {a0 : Int32} {K : Int32 → am_MI → am_MJ → Prop} {X1 : String → am_MI → am_MJ → Prop} (hd : decode cc pc = .ok (.invokevirtual idx, 3)) (hlink : Cond.methodLink own idx yM_numberOf ∈ am_TW) (hcat : (rest.map fun v => v.category).sum ≤ 8) (hR : 1 + 1 ≤ rm.frames ∧ 8 + (4 + 11) + 38 * 1 ≤ rm.locals) (hk : k + 1 ≤ rm.cells ∧ n + 6 ≤ rm.slots) (hm : k ≤ mc ∧ n ≤ ms) (hlt : l.stackTraces = false) (h : w_M_numberOf a0 I J K X1) (kk : ∀ (r : Int32) (I1 : am_MI) (J1 : am_MJ), K r I1 J1 → am l D aC own cc nL ret ini [] G rm mc ms k n (pc + 3) L (.int r :: rest) (am_w ad aC I1 J1) Q (am_lx ad aC X1)) : am l D aC own cc nL ret ini [] G rm mc ms k n pc L (.int a0 :: .ref (ad 28) :: rest) (am_w ad aC I J) Q (am_lx ad aC X1) := by
  refine am_callV 28 6 (As := [.int a0]) (N9 := 1) (t_M_numberOf hlt h) hd rfl (am_w_at ad aC I J (by omega)) rfl hlink (am_tw kw_843 rfl) (am_tw kw_842 rfl) ks_68 (am_tw kw_7 rfl) (by decide +kernel) rfl hcat ⟨rfl, rfl⟩ hR hk (fun E ws1 hx => am_out (fun x hx => nomatch hx) (Nat.add_le_add_right hm.1 1) (Nat.add_le_add_right hm.2 6) hx) ?_
  intro v ws1 hq
  obtain ⟨r, I1, J1, rfl, rfl, hq⟩ := hq
  exact kk r I1 J1 hq
end

def w_M_pages (a0 : Int32) (I : am_MI) (J : am_MJ) (Q : Int32 → am_MI → am_MJ → Prop) (X : String → am_MI → am_MJ → Prop) : Prop :=
  vp_in a0 8 ∧ (Q (((I 32 a0.toNatClampNeg) + (7 : Int32)) / (8 : Int32)) I J)
set_option maxRecDepth 20000 in
theorem t_M_pages {l : Launch} {D : va_G} {aC : Nat → ClassId} {ad : Nat → Nat} (hlt : l.stackTraces = false) {a0 : Int32} {I : am_MI} {J : am_MJ} {Q} {X} (h : w_M_pages a0 I J Q X) : am_c l D aC yM_pages (.code yM_pages cM_pages 2 (some .int)) (am_rm 1) 0 0 [.ref (ad 28), .int a0] (am_w ad aC I J) (am_li ad aC Q) (am_lx ad aC X) := by
  unfold w_M_pages at h
  refine am_of (ini := false) hlt (by decide +kernel) (Nat.le_of_ble_eq_true rfl) (fun h => nomatch h) ?_
  show am l D aC "BubbleBoxModel" cM_pages 2 (some .int) false [] am_G0 (am_rm 1) 0 0 0 0 0 [(0, .ref (ad 28)), (1, .int a0)] [] (am_w ad aC I J) (am_li ad aC Q) (am_lx ad aC X)
  refine am_aload_n 0 dM_pages_0 rfl rfl ?_
  refine go_M_length dM_pages_1 (am_tw kw_669 rfl) ?_
  refine am_iload_n 1 dM_pages_4 rfl rfl ?_
  obtain ⟨hi1, h⟩ := h
  refine ld_32 hi1 dM_pages_5 ?_
  refine am_bipush (v := 7) dM_pages_6 (by decide) ?_
  refine am_iadd dM_pages_8 ?_
  refine am_bipush (v := 8) dM_pages_9 (by decide) ?_
  refine am_idiv dM_pages_11 (by decide) ?_
  exact am_iret dM_pages_12 rfl (Nat.le_of_ble_eq_true rfl) (Nat.le_of_ble_eq_true rfl) ⟨_, _, _, rfl, rfl, h⟩
section
variable {l : Launch} {D : va_G} {aC : Nat → ClassId} {ad : Nat → Nat} {own : String} {cc : ByteArray} {nL : Nat} {ret : Option FieldType} {ini : Bool} {tb : List (Nat × Nat × Nat × Nat)} {G : State → (Nat → Prop) → Prop} {rm : Room} {mc ms k n pc idx : Nat} {L : List (Nat × Value)} {st rest : List Value} {I : am_MI} {J : am_MJ} {Q : Option Value → va_W → Prop} {X : String → va_W → Prop}
theorem kV_M_pages {a0 : Int32} {K : Int32 → am_MI → am_MJ → Prop} {X1 : String → am_MI → am_MJ → Prop} (hd : decode cc pc = .ok (.invokevirtual idx, 3)) (hlink : Cond.methodLink own idx yM_pages ∈ am_TW) (hcat : (rest.map fun v => v.category).sum ≤ 8) (hR : 1 + 1 ≤ rm.frames ∧ 8 + (2 + 11) + 38 * 1 ≤ rm.locals) (hk : k + 1 ≤ rm.cells ∧ n + 6 ≤ rm.slots) (hm : k ≤ mc ∧ n ≤ ms) (hlt : l.stackTraces = false) (h : w_M_pages a0 I J K X1) (kk : ∀ (r : Int32) (I1 : am_MI) (J1 : am_MJ), K r I1 J1 → am l D aC own cc nL ret ini [] G rm mc ms k n (pc + 3) L (.int r :: rest) (am_w ad aC I1 J1) Q (am_lx ad aC X1)) : am l D aC own cc nL ret ini [] G rm mc ms k n pc L (.int a0 :: .ref (ad 28) :: rest) (am_w ad aC I J) Q (am_lx ad aC X1) := by
  refine am_callV 28 6 (As := [.int a0]) (N9 := 1) (t_M_pages hlt h) hd rfl (am_w_at ad aC I J (by omega)) rfl hlink (am_tw kw_797 rfl) (am_tw kw_796 rfl) ks_59 (am_tw kw_7 rfl) (by decide +kernel) rfl hcat ⟨rfl, rfl⟩ hR hk (fun E ws1 hx => am_out (fun x hx => nomatch hx) (Nat.add_le_add_right hm.1 1) (Nat.add_le_add_right hm.2 6) hx) ?_
  intro v ws1 hq
  obtain ⟨r, I1, J1, rfl, rfl, hq⟩ := hq
  exact kk r I1 J1 hq
end

def w_M_power (a0 : Int32) (I : am_MI) (J : am_MJ) (Q : am_MI → am_MJ → Prop) (X : String → am_MI → am_MJ → Prop) : Prop :=
  (((am_ui I 28 0 (0 : Int32)) 28 7) = 0 → (Q (am_ui (am_ui I 28 0 (0 : Int32)) 28 6 ((am_ui I 28 0 (0 : Int32)) 28 6)) J)) ∧ (¬ (((am_ui I 28 0 (0 : Int32)) 28 7) = 0) → ((0 ≤ a0 → (Q (am_ui (am_ui I 28 0 (0 : Int32)) 28 6 a0) J)) ∧ (¬ (0 ≤ a0) → (Q (am_ui (am_ui I 28 0 (0 : Int32)) 28 6 ((-1) : Int32)) J))))
set_option maxRecDepth 20000 in
theorem t_M_power {l : Launch} {D : va_G} {aC : Nat → ClassId} {ad : Nat → Nat} (hlt : l.stackTraces = false) {a0 : Int32} {I : am_MI} {J : am_MJ} {Q} {X} (h : w_M_power a0 I J Q X) : am_c l D aC yM_power (.code yM_power cM_power 2 none) (am_rm 1) 0 0 [.ref (ad 28), .int a0] (am_w ad aC I J) (am_lv ad aC Q) (am_lx ad aC X) := by
  unfold w_M_power at h
  refine am_of (ini := false) hlt (by decide +kernel) (Nat.le_of_ble_eq_true rfl) (fun h => nomatch h) ?_
  show am l D aC "BubbleBoxModel" cM_power 2 none false [] am_G0 (am_rm 1) 0 0 0 0 0 [(0, .ref (ad 28)), (1, .int a0)] [] (am_w ad aC I J) (am_lv ad aC Q) (am_lx ad aC X)
  refine am_aload_n 0 dM_power_0 rfl rfl ?_
  refine am_iconst (v := 0) dM_power_1 (by decide) ?_
  refine po_M_code dM_power_2 (am_tw kw_659 rfl) ?_
  refine am_aload_n 0 dM_power_5 rfl rfl ?_
  refine am_aload_n 0 dM_power_6 rfl rfl ?_
  refine go_M_on dM_power_7 (am_tw kw_666 rfl) ?_
  refine am_if_eq 25 dM_power_10 (by decide) (fun hc1 => ?_) (fun hc1 => ?_)
  · replace h := h.1 hc1
    refine am_aload_n 0 dM_power_25 rfl rfl ?_
    refine go_M_left dM_power_26 (am_tw kw_665 rfl) ?_
    refine po_M_left dM_power_29 (am_tw kw_665 rfl) ?_
    exact am_vret dM_power_32 rfl (Nat.le_of_ble_eq_true rfl) (Nat.le_of_ble_eq_true rfl) ⟨_, _, rfl, rfl, h⟩
  · replace h := h.2 hc1
    refine am_iload_n 1 dM_power_13 rfl rfl ?_
    refine am_if_ge 21 dM_power_14 (by decide) (fun hc2 => ?_) (fun hc2 => ?_)
    · replace h := h.1 hc2
      refine am_iload_n 1 dM_power_21 rfl rfl ?_
      refine am_goto 29 dM_power_22 (by decide) ?_
      refine po_M_left dM_power_29 (am_tw kw_665 rfl) ?_
      exact am_vret dM_power_32 rfl (Nat.le_of_ble_eq_true rfl) (Nat.le_of_ble_eq_true rfl) ⟨_, _, rfl, rfl, h⟩
    · replace h := h.2 hc2
      refine am_iconst (v := (-1)) dM_power_17 (by decide) ?_
      refine am_goto 29 dM_power_18 (by decide) ?_
      refine po_M_left dM_power_29 (am_tw kw_665 rfl) ?_
      exact am_vret dM_power_32 rfl (Nat.le_of_ble_eq_true rfl) (Nat.le_of_ble_eq_true rfl) ⟨_, _, rfl, rfl, h⟩
section
variable {l : Launch} {D : va_G} {aC : Nat → ClassId} {ad : Nat → Nat} {own : String} {cc : ByteArray} {nL : Nat} {ret : Option FieldType} {ini : Bool} {tb : List (Nat × Nat × Nat × Nat)} {G : State → (Nat → Prop) → Prop} {rm : Room} {mc ms k n pc idx : Nat} {L : List (Nat × Value)} {st rest : List Value} {I : am_MI} {J : am_MJ} {Q : Option Value → va_W → Prop} {X : String → va_W → Prop}
theorem kV_M_power {a0 : Int32} {K : am_MI → am_MJ → Prop} {X1 : String → am_MI → am_MJ → Prop} (hd : decode cc pc = .ok (.invokevirtual idx, 3)) (hlink : Cond.methodLink own idx yM_power ∈ am_TW) (hcat : (rest.map fun v => v.category).sum ≤ 8) (hR : 1 + 1 ≤ rm.frames ∧ 8 + (2 + 11) + 38 * 1 ≤ rm.locals) (hk : k + 1 ≤ rm.cells ∧ n + 6 ≤ rm.slots) (hm : k ≤ mc ∧ n ≤ ms) (hlt : l.stackTraces = false) (h : w_M_power a0 I J K X1) (kk : ∀ (I1 : am_MI) (J1 : am_MJ), K I1 J1 → am l D aC own cc nL ret ini [] G rm mc ms k n (pc + 3) L rest (am_w ad aC I1 J1) Q (am_lx ad aC X1)) : am l D aC own cc nL ret ini [] G rm mc ms k n pc L (.int a0 :: .ref (ad 28) :: rest) (am_w ad aC I J) Q (am_lx ad aC X1) := by
  refine am_callV 28 6 (As := [.int a0]) (N9 := 1) (t_M_power hlt h) hd rfl (am_w_at ad aC I J (by omega)) rfl hlink (am_tw kw_752 rfl) (am_tw kw_750 rfl) (am_tw kw_751 rfl) (am_tw kw_7 rfl) (by decide +kernel) rfl hcat ⟨rfl, rfl⟩ hR hk (fun E ws1 hx => am_out (fun x hx => nomatch hx) (Nat.add_le_add_right hm.1 1) (Nat.add_le_add_right hm.2 6) hx) ?_
  intro v ws1 hq
  obtain ⟨I1, J1, rfl, rfl, hq⟩ := hq
  exact kk I1 J1 hq
end
def w_M_putBytes_3 (x1 : Int32) (x2 : Int64) (x4 : Int32) (x5 : Int32) (I : am_MI) (J : am_MJ) (Q : am_MI → am_MJ → Prop) (X : String → am_MI → am_MJ → Prop) : Prop :=
  ∀ P3 : Int32 → am_MI → am_MJ → Prop, (∀ (x5 : Int32) (I : am_MI) (J : am_MJ), ((x4 ≤ x5 → (Q I J)) ∧ (¬ (x4 ≤ x5) → (vp_in (x1 + x5) 160 ∧ (P3 (x5 + 1) (am_ui I 38 (x1 + x5).toNatClampNeg (((x2 >>> (((8 : Int32) * x5).toInt64 &&& 63)) &&& (255 : Int64)).toInt32)) J)))) → P3 x5 I J) → P3 x5 I J
set_option maxRecDepth 20000 in
theorem t_M_putBytes_3 {l : Launch} {D : va_G} {aC : Nat → ClassId} {ad : Nat → Nat} (hlt : l.stackTraces = false) {x1 : Int32} {x2 : Int64} {x4 : Int32} {x5 : Int32} {I : am_MI} {J : am_MJ} {Q} {X} (h : w_M_putBytes_3 x1 x2 x4 x5 I J Q X) : am l D aC "BubbleBoxModel" cM_putBytes 6 none false [] am_G0 (am_rm 1) 0 0 0 0 3 [(0, .ref (ad 28)), (1, .int x1), (2, .long x2), (4, .int x4), (5, .int x5)] [] (am_w ad aC I J) (am_lv ad aC Q) (am_lx ad aC X) := by
  unfold w_M_putBytes_3 at h
  refine h (fun (x5 : Int32) (I : am_MI) (J : am_MJ) => am l D aC "BubbleBoxModel" cM_putBytes 6 none false [] am_G0 (am_rm 1) 0 0 0 0 3 [(0, .ref (ad 28)), (1, .int x1), (2, .long x2), (4, .int x4), (5, .int x5)] [] (am_w ad aC I J) (am_lv ad aC Q) (am_lx ad aC X)) (fun x5 I J h => ?_)
  refine am_iload 4 dM_putBytes_3 rfl ?_
  refine am_iload 3 dM_putBytes_5 rfl ?_
  refine am_icmp_ge 37 dM_putBytes_7 (by decide) (fun hc1 => ?_) (fun hc1 => ?_)
  · replace h := h.1 hc1
    exact am_vret dM_putBytes_37 rfl (Nat.le_of_ble_eq_true rfl) (Nat.le_of_ble_eq_true rfl) ⟨_, _, rfl, rfl, h⟩
  · replace h := h.2 hc1
    refine am_aload_n 0 dM_putBytes_10 rfl rfl ?_
    refine go_M_image dM_putBytes_11 (am_tw kw_677 rfl) ?_
    refine am_iload_n 1 dM_putBytes_14 rfl rfl ?_
    refine am_iload 4 dM_putBytes_15 rfl ?_
    refine am_iadd dM_putBytes_17 ?_
    refine am_lload_n 2 dM_putBytes_18 rfl rfl ?_
    refine am_bipush (v := 8) dM_putBytes_19 (by decide) ?_
    refine am_iload 4 dM_putBytes_21 rfl ?_
    refine am_imul dM_putBytes_23 ?_
    refine am_lshr dM_putBytes_24 ?_
    refine am_ldc2 (v := 255) dM_putBytes_25 (am_tw kw_802 rfl) ?_
    refine am_land dM_putBytes_28 ?_
    refine am_l2i dM_putBytes_29 ?_
    obtain ⟨hi2, h⟩ := h
    refine st_38 hi2 dM_putBytes_30 ?_
    refine am_iinc (j := 4) (v := x5 + 1) (L2 := [(5, .int (x5 + 1)), (0, .ref (ad 28)), (1, .int x1), (2, .long x2), (4, .int x4)]) dM_putBytes_31 rfl (congrArg (x5 + ·) (by decide : Int32.ofInt (1) = 1)) (Nat.le_of_ble_eq_true rfl) rfl ?_
    refine am_goto 3 dM_putBytes_34 (by decide) ?_
    exact am_sub [1, 2, 3, 4, 0] rfl h

def w_M_putBytes (a0 : Int32) (a1 : Int64) (a2 : Int32) (I : am_MI) (J : am_MJ) (Q : am_MI → am_MJ → Prop) (X : String → am_MI → am_MJ → Prop) : Prop :=
  w_M_putBytes_3 a0 a1 a2 (0 : Int32) I J Q X
set_option maxRecDepth 20000 in
theorem t_M_putBytes {l : Launch} {D : va_G} {aC : Nat → ClassId} {ad : Nat → Nat} (hlt : l.stackTraces = false) {a0 : Int32} {a1 : Int64} {a2 : Int32} {I : am_MI} {J : am_MJ} {Q} {X} (h : w_M_putBytes a0 a1 a2 I J Q X) : am_c l D aC yM_putBytes (.code yM_putBytes cM_putBytes 6 none) (am_rm 1) 0 0 [.ref (ad 28), .int a0, .long a1, .int a2] (am_w ad aC I J) (am_lv ad aC Q) (am_lx ad aC X) := by
  unfold w_M_putBytes at h
  refine am_of (ini := false) hlt (by decide +kernel) (Nat.le_of_ble_eq_true rfl) (fun h => nomatch h) ?_
  show am l D aC "BubbleBoxModel" cM_putBytes 6 none false [] am_G0 (am_rm 1) 0 0 0 0 0 [(0, .ref (ad 28)), (1, .int a0), (2, .long a1), (4, .int a2)] [] (am_w ad aC I J) (am_lv ad aC Q) (am_lx ad aC X)
  refine am_iconst (v := 0) dM_putBytes_0 (by decide) ?_
  refine am_istore (L2 := [(5, .int 0), (0, .ref (ad 28)), (1, .int a0), (2, .long a1), (4, .int a2)]) dM_putBytes_1 (Nat.le_of_ble_eq_true rfl) rfl ?_
  exact am_sub [1, 2, 3, 4, 0] rfl (t_M_putBytes_3 hlt h)
section
variable {l : Launch} {D : va_G} {aC : Nat → ClassId} {ad : Nat → Nat} {own : String} {cc : ByteArray} {nL : Nat} {ret : Option FieldType} {ini : Bool} {tb : List (Nat × Nat × Nat × Nat)} {G : State → (Nat → Prop) → Prop} {rm : Room} {mc ms k n pc idx : Nat} {L : List (Nat × Value)} {st rest : List Value} {I : am_MI} {J : am_MJ} {Q : Option Value → va_W → Prop} {X : String → va_W → Prop}
theorem kV_M_putBytes {a0 : Int32} {a1 : Int64} {a2 : Int32} {K : am_MI → am_MJ → Prop} {X1 : String → am_MI → am_MJ → Prop} (hd : decode cc pc = .ok (.invokevirtual idx, 3)) (hlink : Cond.methodLink own idx yM_putBytes ∈ am_TW) (hcat : (rest.map fun v => v.category).sum ≤ 8) (hR : 1 + 1 ≤ rm.frames ∧ 8 + (6 + 11) + 38 * 1 ≤ rm.locals) (hk : k + 1 ≤ rm.cells ∧ n + 6 ≤ rm.slots) (hm : k ≤ mc ∧ n ≤ ms) (hlt : l.stackTraces = false) (h : w_M_putBytes a0 a1 a2 I J K X1) (kk : ∀ (I1 : am_MI) (J1 : am_MJ), K I1 J1 → am l D aC own cc nL ret ini [] G rm mc ms k n (pc + 3) L rest (am_w ad aC I1 J1) Q (am_lx ad aC X1)) : am l D aC own cc nL ret ini [] G rm mc ms k n pc L (.int a2 :: .long a1 :: .int a0 :: .ref (ad 28) :: rest) (am_w ad aC I J) Q (am_lx ad aC X1) := by
  refine am_callV 28 6 (As := [.int a0, .long a1, .int a2]) (N9 := 3) (t_M_putBytes hlt h) hd rfl (am_w_at ad aC I J (by omega)) rfl hlink (am_tw kw_801 rfl) (am_tw kw_800 rfl) ks_60 (am_tw kw_7 rfl) (by decide +kernel) rfl hcat ⟨rfl, rfl⟩ hR hk (fun E ws1 hx => am_out (fun x hx => nomatch hx) (Nat.add_le_add_right hm.1 1) (Nat.add_le_add_right hm.2 6) hx) ?_
  intro v ws1 hq
  obtain ⟨I1, J1, rfl, rfl, hq⟩ := hq
  exact kk I1 J1 hq
end

def w_M_state (I : am_MI) (J : am_MJ) (Q : Int32 → am_MI → am_MJ → Prop) (X : String → am_MI → am_MJ → Prop) : Prop :=
  (¬ ((am_ui I 28 0 (0 : Int32)) 28 7) = 0 → ((((am_ui I 28 0 (0 : Int32)) 28 8) = 0 → (Q 1 (am_ui I 28 0 (0 : Int32)) J)) ∧ (¬ (((am_ui I 28 0 (0 : Int32)) 28 8) = 0) → (Q 2 (am_ui I 28 0 (0 : Int32)) J)))) ∧ (((am_ui I 28 0 (0 : Int32)) 28 7) = 0 → (Q 0 (am_ui I 28 0 (0 : Int32)) J))
set_option maxRecDepth 20000 in
theorem t_M_state {l : Launch} {D : va_G} {aC : Nat → ClassId} {ad : Nat → Nat} (hlt : l.stackTraces = false) {I : am_MI} {J : am_MJ} {Q} {X} (h : w_M_state I J Q X) : am_c l D aC yM_state (.code yM_state cM_state 1 (some .int)) (am_rm 1) 0 0 [.ref (ad 28)] (am_w ad aC I J) (am_li ad aC Q) (am_lx ad aC X) := by
  unfold w_M_state at h
  refine am_of (ini := false) hlt (by decide +kernel) (Nat.le_of_ble_eq_true rfl) (fun h => nomatch h) ?_
  show am l D aC "BubbleBoxModel" cM_state 1 (some .int) false [] am_G0 (am_rm 1) 0 0 0 0 0 [(0, .ref (ad 28))] [] (am_w ad aC I J) (am_li ad aC Q) (am_lx ad aC X)
  refine am_aload_n 0 dM_state_0 rfl rfl ?_
  refine am_iconst (v := 0) dM_state_1 (by decide) ?_
  refine po_M_code dM_state_2 (am_tw kw_659 rfl) ?_
  refine am_aload_n 0 dM_state_5 rfl rfl ?_
  refine go_M_on dM_state_6 (am_tw kw_666 rfl) ?_
  refine am_if_ne 16 dM_state_9 (by decide) (fun hc1 => ?_) (fun hc1 => ?_)
  · replace h := h.1 hc1
    refine am_aload_n 0 dM_state_16 rfl rfl ?_
    refine go_M_mounted dM_state_17 (am_tw kw_667 rfl) ?_
    refine am_if_eq 27 dM_state_20 (by decide) (fun hc2 => ?_) (fun hc2 => ?_)
    · replace h := h.1 hc2
      refine am_iconst (v := 1) dM_state_27 (by decide) ?_
      exact am_iret dM_state_28 rfl (Nat.le_of_ble_eq_true rfl) (Nat.le_of_ble_eq_true rfl) ⟨_, _, _, rfl, rfl, h⟩
    · replace h := h.2 hc2
      refine am_iconst (v := 2) dM_state_23 (by decide) ?_
      refine am_goto 28 dM_state_24 (by decide) ?_
      exact am_iret dM_state_28 rfl (Nat.le_of_ble_eq_true rfl) (Nat.le_of_ble_eq_true rfl) ⟨_, _, _, rfl, rfl, h⟩
  · replace h := h.2 hc1
    refine am_iconst (v := 0) dM_state_12 (by decide) ?_
    refine am_goto 28 dM_state_13 (by decide) ?_
    exact am_iret dM_state_28 rfl (Nat.le_of_ble_eq_true rfl) (Nat.le_of_ble_eq_true rfl) ⟨_, _, _, rfl, rfl, h⟩
section
variable {l : Launch} {D : va_G} {aC : Nat → ClassId} {ad : Nat → Nat} {own : String} {cc : ByteArray} {nL : Nat} {ret : Option FieldType} {ini : Bool} {tb : List (Nat × Nat × Nat × Nat)} {G : State → (Nat → Prop) → Prop} {rm : Room} {mc ms k n pc idx : Nat} {L : List (Nat × Value)} {st rest : List Value} {I : am_MI} {J : am_MJ} {Q : Option Value → va_W → Prop} {X : String → va_W → Prop}
theorem kV_M_state {K : Int32 → am_MI → am_MJ → Prop} {X1 : String → am_MI → am_MJ → Prop} (hd : decode cc pc = .ok (.invokevirtual idx, 3)) (hlink : Cond.methodLink own idx yM_state ∈ am_TW) (hcat : (rest.map fun v => v.category).sum ≤ 8) (hR : 1 + 1 ≤ rm.frames ∧ 8 + (1 + 11) + 38 * 1 ≤ rm.locals) (hk : k + 1 ≤ rm.cells ∧ n + 6 ≤ rm.slots) (hm : k ≤ mc ∧ n ≤ ms) (hlt : l.stackTraces = false) (h : w_M_state I J K X1) (kk : ∀ (r : Int32) (I1 : am_MI) (J1 : am_MJ), K r I1 J1 → am l D aC own cc nL ret ini [] G rm mc ms k n (pc + 3) L (.int r :: rest) (am_w ad aC I1 J1) Q (am_lx ad aC X1)) : am l D aC own cc nL ret ini [] G rm mc ms k n pc L (.ref (ad 28) :: rest) (am_w ad aC I J) Q (am_lx ad aC X1) := by
  refine am_callV 28 6 (As := []) (N9 := 0) (t_M_state hlt h) hd rfl (am_w_at ad aC I J (by omega)) rfl hlink (am_tw kw_756 rfl) (am_tw kw_754 rfl) (am_tw kw_755 rfl) (am_tw kw_7 rfl) (by decide +kernel) rfl hcat ⟨rfl, rfl⟩ hR hk (fun E ws1 hx => am_out (fun x hx => nomatch hx) (Nat.add_le_add_right hm.1 1) (Nat.add_le_add_right hm.2 6) hx) ?_
  intro v ws1 hq
  obtain ⟨r, I1, J1, rfl, rfl, hq⟩ := hq
  exact kk r I1 J1 hq
end

def w_M_steps (I : am_MI) (J : am_MJ) (Q : Int64 → am_MI → am_MJ → Prop) (X : String → am_MI → am_MJ → Prop) : Prop :=
  Q (J 28 5) (am_ui I 28 0 (0 : Int32)) J
set_option maxRecDepth 20000 in
theorem t_M_steps {l : Launch} {D : va_G} {aC : Nat → ClassId} {ad : Nat → Nat} (hlt : l.stackTraces = false) {I : am_MI} {J : am_MJ} {Q} {X} (h : w_M_steps I J Q X) : am_c l D aC yM_steps (.code yM_steps cM_steps 1 (some .long)) (am_rm 1) 0 0 [.ref (ad 28)] (am_w ad aC I J) (am_ll ad aC Q) (am_lx ad aC X) := by
  unfold w_M_steps at h
  refine am_of (ini := false) hlt (by decide +kernel) (Nat.le_of_ble_eq_true rfl) (fun h => nomatch h) ?_
  show am l D aC "BubbleBoxModel" cM_steps 1 (some .long) false [] am_G0 (am_rm 1) 0 0 0 0 0 [(0, .ref (ad 28))] [] (am_w ad aC I J) (am_ll ad aC Q) (am_lx ad aC X)
  refine am_aload_n 0 dM_steps_0 rfl rfl ?_
  refine am_iconst (v := 0) dM_steps_1 (by decide) ?_
  refine po_M_code dM_steps_2 (am_tw kw_659 rfl) ?_
  refine am_aload_n 0 dM_steps_5 rfl rfl ?_
  refine go_M_steps dM_steps_6 (am_tw kw_664 rfl) ?_
  exact am_lret dM_steps_9 rfl (Nat.le_of_ble_eq_true rfl) (Nat.le_of_ble_eq_true rfl) ⟨_, _, _, rfl, rfl, h⟩
section
variable {l : Launch} {D : va_G} {aC : Nat → ClassId} {ad : Nat → Nat} {own : String} {cc : ByteArray} {nL : Nat} {ret : Option FieldType} {ini : Bool} {tb : List (Nat × Nat × Nat × Nat)} {G : State → (Nat → Prop) → Prop} {rm : Room} {mc ms k n pc idx : Nat} {L : List (Nat × Value)} {st rest : List Value} {I : am_MI} {J : am_MJ} {Q : Option Value → va_W → Prop} {X : String → va_W → Prop}
theorem kV_M_steps {K : Int64 → am_MI → am_MJ → Prop} {X1 : String → am_MI → am_MJ → Prop} (hd : decode cc pc = .ok (.invokevirtual idx, 3)) (hlink : Cond.methodLink own idx yM_steps ∈ am_TW) (hcat : (rest.map fun v => v.category).sum ≤ 8) (hR : 1 + 1 ≤ rm.frames ∧ 8 + (1 + 11) + 38 * 1 ≤ rm.locals) (hk : k + 1 ≤ rm.cells ∧ n + 6 ≤ rm.slots) (hm : k ≤ mc ∧ n ≤ ms) (hlt : l.stackTraces = false) (h : w_M_steps I J K X1) (kk : ∀ (r : Int64) (I1 : am_MI) (J1 : am_MJ), K r I1 J1 → am l D aC own cc nL ret ini [] G rm mc ms k n (pc + 3) L (.long r :: rest) (am_w ad aC I1 J1) Q (am_lx ad aC X1)) : am l D aC own cc nL ret ini [] G rm mc ms k n pc L (.ref (ad 28) :: rest) (am_w ad aC I J) Q (am_lx ad aC X1) := by
  refine am_callV 28 6 (As := []) (N9 := 0) (t_M_steps hlt h) hd rfl (am_w_at ad aC I J (by omega)) rfl hlink (am_tw kw_760 rfl) (am_tw kw_758 rfl) (am_tw kw_759 rfl) (am_tw kw_7 rfl) (by decide +kernel) rfl hcat ⟨rfl, rfl⟩ hR hk (fun E ws1 hx => am_out (fun x hx => nomatch hx) (Nat.add_le_add_right hm.1 1) (Nat.add_le_add_right hm.2 6) hx) ?_
  intro v ws1 hq
  obtain ⟨r, I1, J1, rfl, rfl, hq⟩ := hq
  exact kk r I1 J1 hq
end

def w_M_stepsTo (a0 : Int32) (I : am_MI) (J : am_MJ) (Q : Int32 → am_MI → am_MJ → Prop) (X : String → am_MI → am_MJ → Prop) : Prop :=
  Q (((a0 + (101 : Int32)) - (I 28 4)) - ((a0 + (101 : Int32)) - (I 28 4)) / (101 : Int32) * (101 : Int32)) I J
set_option maxRecDepth 20000 in
theorem t_M_stepsTo {l : Launch} {D : va_G} {aC : Nat → ClassId} {ad : Nat → Nat} (hlt : l.stackTraces = false) {a0 : Int32} {I : am_MI} {J : am_MJ} {Q} {X} (h : w_M_stepsTo a0 I J Q X) : am_c l D aC yM_stepsTo (.code yM_stepsTo cM_stepsTo 2 (some .int)) (am_rm 1) 0 0 [.ref (ad 28), .int a0] (am_w ad aC I J) (am_li ad aC Q) (am_lx ad aC X) := by
  unfold w_M_stepsTo at h
  refine am_of (ini := false) hlt (by decide +kernel) (Nat.le_of_ble_eq_true rfl) (fun h => nomatch h) ?_
  show am l D aC "BubbleBoxModel" cM_stepsTo 2 (some .int) false [] am_G0 (am_rm 1) 0 0 0 0 0 [(0, .ref (ad 28)), (1, .int a0)] [] (am_w ad aC I J) (am_li ad aC Q) (am_lx ad aC X)
  refine am_iload_n 1 dM_stepsTo_0 rfl rfl ?_
  refine am_bipush (v := 101) dM_stepsTo_1 (by decide) ?_
  refine am_iadd dM_stepsTo_3 ?_
  refine am_aload_n 0 dM_stepsTo_4 rfl rfl ?_
  refine go_M_position dM_stepsTo_5 (am_tw kw_663 rfl) ?_
  refine am_isub dM_stepsTo_8 ?_
  refine am_bipush (v := 101) dM_stepsTo_9 (by decide) ?_
  refine am_irem dM_stepsTo_11 (by decide) ?_
  exact am_iret dM_stepsTo_12 rfl (Nat.le_of_ble_eq_true rfl) (Nat.le_of_ble_eq_true rfl) ⟨_, _, _, rfl, rfl, h⟩
section
variable {l : Launch} {D : va_G} {aC : Nat → ClassId} {ad : Nat → Nat} {own : String} {cc : ByteArray} {nL : Nat} {ret : Option FieldType} {ini : Bool} {tb : List (Nat × Nat × Nat × Nat)} {G : State → (Nat → Prop) → Prop} {rm : Room} {mc ms k n pc idx : Nat} {L : List (Nat × Value)} {st rest : List Value} {I : am_MI} {J : am_MJ} {Q : Option Value → va_W → Prop} {X : String → va_W → Prop}
theorem kV_M_stepsTo {a0 : Int32} {K : Int32 → am_MI → am_MJ → Prop} {X1 : String → am_MI → am_MJ → Prop} (hd : decode cc pc = .ok (.invokevirtual idx, 3)) (hlink : Cond.methodLink own idx yM_stepsTo ∈ am_TW) (hcat : (rest.map fun v => v.category).sum ≤ 8) (hR : 1 + 1 ≤ rm.frames ∧ 8 + (2 + 11) + 38 * 1 ≤ rm.locals) (hk : k + 1 ≤ rm.cells ∧ n + 6 ≤ rm.slots) (hm : k ≤ mc ∧ n ≤ ms) (hlt : l.stackTraces = false) (h : w_M_stepsTo a0 I J K X1) (kk : ∀ (r : Int32) (I1 : am_MI) (J1 : am_MJ), K r I1 J1 → am l D aC own cc nL ret ini [] G rm mc ms k n (pc + 3) L (.int r :: rest) (am_w ad aC I1 J1) Q (am_lx ad aC X1)) : am l D aC own cc nL ret ini [] G rm mc ms k n pc L (.int a0 :: .ref (ad 28) :: rest) (am_w ad aC I J) Q (am_lx ad aC X1) := by
  refine am_callV 28 6 (As := [.int a0]) (N9 := 1) (t_M_stepsTo hlt h) hd rfl (am_w_at ad aC I J (by omega)) rfl hlink (am_tw kw_789 rfl) (am_tw kw_788 rfl) ks_57 (am_tw kw_7 rfl) (by decide +kernel) rfl hcat ⟨rfl, rfl⟩ hR hk (fun E ws1 hx => am_out (fun x hx => nomatch hx) (Nat.add_le_add_right hm.1 1) (Nat.add_le_add_right hm.2 6) hx) ?_
  intro v ws1 hq
  obtain ⟨r, I1, J1, rfl, rfl, hq⟩ := hq
  exact kk r I1 J1 hq
end
def w_M_stuck_36 (x1 : Int32) (xs0 : Int32) (I : am_MI) (J : am_MJ) (Q : am_MI → am_MJ → Prop) (X : String → am_MI → am_MJ → Prop) : Prop :=
  (¬ ((am_ui I 28 0 xs0) 28 0) = 0 → (Q (am_ui I 28 0 xs0) J)) ∧ (((am_ui I 28 0 xs0) 28 0) = 0 → (vp_in x1 69 ∧ (Q (am_ui (am_ui I 28 0 xs0) 29 x1.toNatClampNeg (vp_nar .boolean (1 : Int32))) J)))
set_option maxRecDepth 20000 in
theorem t_M_stuck_36 {l : Launch} {D : va_G} {aC : Nat → ClassId} {ad : Nat → Nat} (hlt : l.stackTraces = false) {x1 : Int32} {xs0 : Int32} {I : am_MI} {J : am_MJ} {Q} {X} (h : w_M_stuck_36 x1 xs0 I J Q X) : am l D aC "BubbleBoxModel" cM_stuck 3 none false [] am_G0 (am_rm 1) 0 0 0 0 36 [(0, .ref (ad 28)), (1, .int x1)] [.int xs0, .ref (ad 28)] (am_w ad aC I J) (am_lv ad aC Q) (am_lx ad aC X) := by
  unfold w_M_stuck_36 at h
  refine po_M_code dM_stuck_36 (am_tw kw_659 rfl) ?_
  refine am_aload_n 0 dM_stuck_39 rfl rfl ?_
  refine go_M_code dM_stuck_40 (am_tw kw_659 rfl) ?_
  refine am_if_ne 53 dM_stuck_43 (by decide) (fun hc2 => ?_) (fun hc2 => ?_)
  · replace h := h.1 hc2
    exact am_vret dM_stuck_53 rfl (Nat.le_of_ble_eq_true rfl) (Nat.le_of_ble_eq_true rfl) ⟨_, _, rfl, rfl, h⟩
  · replace h := h.2 hc2
    refine am_aload_n 0 dM_stuck_46 rfl rfl ?_
    refine go_M_bad dM_stuck_47 (am_tw kw_660 rfl) ?_
    refine am_iload_n 1 dM_stuck_50 rfl rfl ?_
    refine am_iconst (v := 1) dM_stuck_51 (by decide) ?_
    obtain ⟨hi3, h⟩ := h
    refine st_29 hi3 dM_stuck_52 ?_
    exact am_vret dM_stuck_53 rfl (Nat.le_of_ble_eq_true rfl) (Nat.le_of_ble_eq_true rfl) ⟨_, _, rfl, rfl, h⟩

def w_M_stuck_20 (x1 : Int32) (I : am_MI) (J : am_MJ) (Q : am_MI → am_MJ → Prop) (X : String → am_MI → am_MJ → Prop) : Prop :=
  w_M_stuck_36 x1 (1 : Int32) I J Q X
set_option maxRecDepth 20000 in
theorem t_M_stuck_20 {l : Launch} {D : va_G} {aC : Nat → ClassId} {ad : Nat → Nat} (hlt : l.stackTraces = false) {x1 : Int32} {I : am_MI} {J : am_MJ} {Q} {X} (h : w_M_stuck_20 x1 I J Q X) : am l D aC "BubbleBoxModel" cM_stuck 3 none false [] am_G0 (am_rm 1) 0 0 0 0 20 [(0, .ref (ad 28)), (1, .int x1)] [.ref (ad 28)] (am_w ad aC I J) (am_lv ad aC Q) (am_lx ad aC X) := by
  unfold w_M_stuck_20 at h
  refine am_iconst (v := 1) dM_stuck_20 (by decide) ?_
  refine am_goto 36 dM_stuck_21 (by decide) ?_
  exact am_sub [0, 1] rfl (t_M_stuck_36 hlt h)

def w_M_stuck (a0 : Int32) (a1 : Int32) (I : am_MI) (J : am_MJ) (Q : am_MI → am_MJ → Prop) (X : String → am_MI → am_MJ → Prop) : Prop :=
  (a0 < 0 → (w_M_stuck_20 a0 I J Q X)) ∧ (¬ (a0 < 0) → (((68 : Int32) < a0 → (w_M_stuck_20 a0 I J Q X)) ∧ (¬ ((68 : Int32) < a0) → ((a1 < 0 → (w_M_stuck_20 a0 I J Q X)) ∧ (¬ (a1 < 0) → ((a1 ≤ (1 : Int32) → (((I 28 2) = 0 → (w_M_stuck_36 a0 (0 : Int32) I J Q X)) ∧ (¬ ((I 28 2) = 0) → (w_M_stuck_36 a0 (2 : Int32) I J Q X)))) ∧ (¬ (a1 ≤ (1 : Int32)) → (w_M_stuck_20 a0 I J Q X))))))))
set_option maxRecDepth 20000 in
theorem t_M_stuck {l : Launch} {D : va_G} {aC : Nat → ClassId} {ad : Nat → Nat} (hlt : l.stackTraces = false) {a0 : Int32} {a1 : Int32} {I : am_MI} {J : am_MJ} {Q} {X} (h : w_M_stuck a0 a1 I J Q X) : am_c l D aC yM_stuck (.code yM_stuck cM_stuck 3 none) (am_rm 1) 0 0 [.ref (ad 28), .int a0, .int a1] (am_w ad aC I J) (am_lv ad aC Q) (am_lx ad aC X) := by
  unfold w_M_stuck at h
  refine am_of (ini := false) hlt (by decide +kernel) (Nat.le_of_ble_eq_true rfl) (fun h => nomatch h) ?_
  show am l D aC "BubbleBoxModel" cM_stuck 3 none false [] am_G0 (am_rm 1) 0 0 0 0 0 [(0, .ref (ad 28)), (1, .int a0), (2, .int a1)] [] (am_w ad aC I J) (am_lv ad aC Q) (am_lx ad aC X)
  refine am_aload_n 0 dM_stuck_0 rfl rfl ?_
  refine am_iload_n 1 dM_stuck_1 rfl rfl ?_
  refine am_if_lt 20 dM_stuck_2 (by decide) (fun hc1 => ?_) (fun hc1 => ?_)
  · replace h := h.1 hc1
    exact am_sub [0, 1] rfl (t_M_stuck_20 hlt h)
  · replace h := h.2 hc1
    refine am_iload_n 1 dM_stuck_5 rfl rfl ?_
    refine am_bipush (v := 68) dM_stuck_6 (by decide) ?_
    refine am_icmp_gt 20 dM_stuck_8 (by decide) (fun hc4 => ?_) (fun hc4 => ?_)
    · replace h := h.1 hc4
      exact am_sub [0, 1] rfl (t_M_stuck_20 hlt h)
    · replace h := h.2 hc4
      refine am_iload_n 2 dM_stuck_11 rfl rfl ?_
      refine am_if_lt 20 dM_stuck_12 (by decide) (fun hc5 => ?_) (fun hc5 => ?_)
      · replace h := h.1 hc5
        exact am_sub [0, 1] rfl (t_M_stuck_20 hlt h)
      · replace h := h.2 hc5
        refine am_iload_n 2 dM_stuck_15 rfl rfl ?_
        refine am_iconst (v := 1) dM_stuck_16 (by decide) ?_
        refine am_icmp_le 24 dM_stuck_17 (by decide) (fun hc6 => ?_) (fun hc6 => ?_)
        · replace h := h.1 hc6
          refine am_aload_n 0 dM_stuck_24 rfl rfl ?_
          refine go_M_mapped dM_stuck_25 (am_tw kw_661 rfl) ?_
          refine am_if_eq 35 dM_stuck_28 (by decide) (fun hc7 => ?_) (fun hc7 => ?_)
          · replace h := h.1 hc7
            refine am_iconst (v := 0) dM_stuck_35 (by decide) ?_
            exact am_sub [0, 1] rfl (t_M_stuck_36 hlt h)
          · replace h := h.2 hc7
            refine am_iconst (v := 2) dM_stuck_31 (by decide) ?_
            refine am_goto 36 dM_stuck_32 (by decide) ?_
            exact am_sub [0, 1] rfl (t_M_stuck_36 hlt h)
        · replace h := h.2 hc6
          exact am_sub [0, 1] rfl (t_M_stuck_20 hlt h)
section
variable {l : Launch} {D : va_G} {aC : Nat → ClassId} {ad : Nat → Nat} {own : String} {cc : ByteArray} {nL : Nat} {ret : Option FieldType} {ini : Bool} {tb : List (Nat × Nat × Nat × Nat)} {G : State → (Nat → Prop) → Prop} {rm : Room} {mc ms k n pc idx : Nat} {L : List (Nat × Value)} {st rest : List Value} {I : am_MI} {J : am_MJ} {Q : Option Value → va_W → Prop} {X : String → va_W → Prop}
theorem kV_M_stuck {a0 : Int32} {a1 : Int32} {K : am_MI → am_MJ → Prop} {X1 : String → am_MI → am_MJ → Prop} (hd : decode cc pc = .ok (.invokevirtual idx, 3)) (hlink : Cond.methodLink own idx yM_stuck ∈ am_TW) (hcat : (rest.map fun v => v.category).sum ≤ 8) (hR : 1 + 1 ≤ rm.frames ∧ 8 + (3 + 11) + 38 * 1 ≤ rm.locals) (hk : k + 1 ≤ rm.cells ∧ n + 6 ≤ rm.slots) (hm : k ≤ mc ∧ n ≤ ms) (hlt : l.stackTraces = false) (h : w_M_stuck a0 a1 I J K X1) (kk : ∀ (I1 : am_MI) (J1 : am_MJ), K I1 J1 → am l D aC own cc nL ret ini [] G rm mc ms k n (pc + 3) L rest (am_w ad aC I1 J1) Q (am_lx ad aC X1)) : am l D aC own cc nL ret ini [] G rm mc ms k n pc L (.int a1 :: .int a0 :: .ref (ad 28) :: rest) (am_w ad aC I J) Q (am_lx ad aC X1) := by
  refine am_callV 28 6 (As := [.int a0, .int a1]) (N9 := 2) (t_M_stuck hlt h) hd rfl (am_w_at ad aC I J (by omega)) rfl hlink (am_tw kw_748 rfl) (am_tw kw_746 rfl) (am_tw kw_747 rfl) (am_tw kw_7 rfl) (by decide +kernel) rfl hcat ⟨rfl, rfl⟩ hR hk (fun E ws1 hx => am_out (fun x hx => nomatch hx) (Nat.add_le_add_right hm.1 1) (Nat.add_le_add_right hm.2 6) hx) ?_
  intro v ws1 hq
  obtain ⟨I1, J1, rfl, rfl, hq⟩ := hq
  exact kk I1 J1 hq
end
def w_M_sumOfImage_4 (x1 : Int32) (x2 : Int32) (I : am_MI) (J : am_MJ) (Q : Int32 → am_MI → am_MJ → Prop) (X : String → am_MI → am_MJ → Prop) : Prop :=
  ∀ P4 : Int32 → Int32 → am_MI → am_MJ → Prop, (∀ (x1 : Int32) (x2 : Int32) (I : am_MI) (J : am_MJ), (((158 : Int32) ≤ x2 → (Q (x1 - x1 / (65536 : Int32) * (65536 : Int32)) I J)) ∧ (¬ ((158 : Int32) ≤ x2) → (vp_in x2 160 ∧ (P4 (x1 + (I 38 x2.toNatClampNeg)) (x2 + 1) I J)))) → P4 x1 x2 I J) → P4 x1 x2 I J
set_option maxRecDepth 20000 in
theorem t_M_sumOfImage_4 {l : Launch} {D : va_G} {aC : Nat → ClassId} {ad : Nat → Nat} (hlt : l.stackTraces = false) {x1 : Int32} {x2 : Int32} {I : am_MI} {J : am_MJ} {Q} {X} (h : w_M_sumOfImage_4 x1 x2 I J Q X) : am l D aC "BubbleBoxModel" cM_sumOfImage 3 (some .int) false [] am_G0 (am_rm 1) 0 0 0 0 4 [(0, .ref (ad 28)), (1, .int x1), (2, .int x2)] [] (am_w ad aC I J) (am_li ad aC Q) (am_lx ad aC X) := by
  unfold w_M_sumOfImage_4 at h
  refine h (fun (x1 : Int32) (x2 : Int32) (I : am_MI) (J : am_MJ) => am l D aC "BubbleBoxModel" cM_sumOfImage 3 (some .int) false [] am_G0 (am_rm 1) 0 0 0 0 4 [(0, .ref (ad 28)), (1, .int x1), (2, .int x2)] [] (am_w ad aC I J) (am_li ad aC Q) (am_lx ad aC X)) (fun x1 x2 I J h => ?_)
  refine am_iload_n 2 dM_sumOfImage_4 rfl rfl ?_
  refine am_sipush (v := 158) dM_sumOfImage_5 (by decide) ?_
  refine am_icmp_ge 26 dM_sumOfImage_8 (by decide) (fun hc1 => ?_) (fun hc1 => ?_)
  · replace h := h.1 hc1
    refine am_iload_n 1 dM_sumOfImage_26 rfl rfl ?_
    refine am_ldc (v := 65536) dM_sumOfImage_27 (am_tw kw_807 rfl) ?_
    refine am_irem dM_sumOfImage_29 (by decide) ?_
    exact am_iret dM_sumOfImage_30 rfl (Nat.le_of_ble_eq_true rfl) (Nat.le_of_ble_eq_true rfl) ⟨_, _, _, rfl, rfl, h⟩
  · replace h := h.2 hc1
    refine am_iload_n 1 dM_sumOfImage_11 rfl rfl ?_
    refine am_aload_n 0 dM_sumOfImage_12 rfl rfl ?_
    refine go_M_image dM_sumOfImage_13 (am_tw kw_677 rfl) ?_
    refine am_iload_n 2 dM_sumOfImage_16 rfl rfl ?_
    obtain ⟨hi2, h⟩ := h
    refine ld_38 hi2 dM_sumOfImage_17 ?_
    refine am_iadd dM_sumOfImage_18 ?_
    refine am_istore_n (L2 := [(1, .int (x1 + (I 38 x2.toNatClampNeg))), (0, .ref (ad 28)), (2, .int x2)]) dM_sumOfImage_19 rfl (Nat.le_of_ble_eq_true rfl) rfl ?_
    refine am_iinc (j := 2) (v := x2 + 1) (L2 := [(2, .int (x2 + 1)), (1, .int (x1 + (I 38 x2.toNatClampNeg))), (0, .ref (ad 28))]) dM_sumOfImage_20 rfl (congrArg (x2 + ·) (by decide : Int32.ofInt (1) = 1)) (Nat.le_of_ble_eq_true rfl) rfl ?_
    refine am_goto 4 dM_sumOfImage_23 (by decide) ?_
    exact am_sub [2, 1, 0] rfl h

def w_M_sumOfImage (I : am_MI) (J : am_MJ) (Q : Int32 → am_MI → am_MJ → Prop) (X : String → am_MI → am_MJ → Prop) : Prop :=
  w_M_sumOfImage_4 (1 : Int32) (0 : Int32) I J Q X
set_option maxRecDepth 20000 in
theorem t_M_sumOfImage {l : Launch} {D : va_G} {aC : Nat → ClassId} {ad : Nat → Nat} (hlt : l.stackTraces = false) {I : am_MI} {J : am_MJ} {Q} {X} (h : w_M_sumOfImage I J Q X) : am_c l D aC yM_sumOfImage (.code yM_sumOfImage cM_sumOfImage 3 (some .int)) (am_rm 1) 0 0 [.ref (ad 28)] (am_w ad aC I J) (am_li ad aC Q) (am_lx ad aC X) := by
  unfold w_M_sumOfImage at h
  refine am_of (ini := false) hlt (by decide +kernel) (Nat.le_of_ble_eq_true rfl) (fun h => nomatch h) ?_
  show am l D aC "BubbleBoxModel" cM_sumOfImage 3 (some .int) false [] am_G0 (am_rm 1) 0 0 0 0 0 [(0, .ref (ad 28))] [] (am_w ad aC I J) (am_li ad aC Q) (am_lx ad aC X)
  refine am_iconst (v := 1) dM_sumOfImage_0 (by decide) ?_
  refine am_istore_n (L2 := [(1, .int 1), (0, .ref (ad 28))]) dM_sumOfImage_1 rfl (Nat.le_of_ble_eq_true rfl) rfl ?_
  refine am_iconst (v := 0) dM_sumOfImage_2 (by decide) ?_
  refine am_istore_n (L2 := [(2, .int 0), (1, .int 1), (0, .ref (ad 28))]) dM_sumOfImage_3 rfl (Nat.le_of_ble_eq_true rfl) rfl ?_
  exact am_sub [2, 1, 0] rfl (t_M_sumOfImage_4 hlt h)
section
variable {l : Launch} {D : va_G} {aC : Nat → ClassId} {ad : Nat → Nat} {own : String} {cc : ByteArray} {nL : Nat} {ret : Option FieldType} {ini : Bool} {tb : List (Nat × Nat × Nat × Nat)} {G : State → (Nat → Prop) → Prop} {rm : Room} {mc ms k n pc idx : Nat} {L : List (Nat × Value)} {st rest : List Value} {I : am_MI} {J : am_MJ} {Q : Option Value → va_W → Prop} {X : String → va_W → Prop}
theorem kV_M_sumOfImage {K : Int32 → am_MI → am_MJ → Prop} {X1 : String → am_MI → am_MJ → Prop} (hd : decode cc pc = .ok (.invokevirtual idx, 3)) (hlink : Cond.methodLink own idx yM_sumOfImage ∈ am_TW) (hcat : (rest.map fun v => v.category).sum ≤ 8) (hR : 1 + 1 ≤ rm.frames ∧ 8 + (3 + 11) + 38 * 1 ≤ rm.locals) (hk : k + 1 ≤ rm.cells ∧ n + 6 ≤ rm.slots) (hm : k ≤ mc ∧ n ≤ ms) (hlt : l.stackTraces = false) (h : w_M_sumOfImage I J K X1) (kk : ∀ (r : Int32) (I1 : am_MI) (J1 : am_MJ), K r I1 J1 → am l D aC own cc nL ret ini [] G rm mc ms k n (pc + 3) L (.int r :: rest) (am_w ad aC I1 J1) Q (am_lx ad aC X1)) : am l D aC own cc nL ret ini [] G rm mc ms k n pc L (.ref (ad 28) :: rest) (am_w ad aC I J) Q (am_lx ad aC X1) := by
  refine am_callV 28 6 (As := []) (N9 := 0) (t_M_sumOfImage hlt h) hd rfl (am_w_at ad aC I J (by omega)) rfl hlink (am_tw kw_806 rfl) (am_tw kw_805 rfl) ks_61 (am_tw kw_7 rfl) (by decide +kernel) rfl hcat ⟨rfl, rfl⟩ hR hk (fun E ws1 hx => am_out (fun x hx => nomatch hx) (Nat.add_le_add_right hm.1 1) (Nat.add_le_add_right hm.2 6) hx) ?_
  intro v ws1 hq
  obtain ⟨r, I1, J1, rfl, rfl, hq⟩ := hq
  exact kk r I1 J1 hq
end

def w_M_thrown (I : am_MI) (J : am_MJ) (Q : Int32 → am_MI → am_MJ → Prop) (X : String → am_MI → am_MJ → Prop) : Prop :=
  Q (I 28 0) I J
set_option maxRecDepth 20000 in
theorem t_M_thrown {l : Launch} {D : va_G} {aC : Nat → ClassId} {ad : Nat → Nat} (hlt : l.stackTraces = false) {I : am_MI} {J : am_MJ} {Q} {X} (h : w_M_thrown I J Q X) : am_c l D aC yM_thrown (.code yM_thrown cM_thrown 1 (some .int)) (am_rm 1) 0 0 [.ref (ad 28)] (am_w ad aC I J) (am_li ad aC Q) (am_lx ad aC X) := by
  unfold w_M_thrown at h
  refine am_of (ini := false) hlt (by decide +kernel) (Nat.le_of_ble_eq_true rfl) (fun h => nomatch h) ?_
  show am l D aC "BubbleBoxModel" cM_thrown 1 (some .int) false [] am_G0 (am_rm 1) 0 0 0 0 0 [(0, .ref (ad 28))] [] (am_w ad aC I J) (am_li ad aC Q) (am_lx ad aC X)
  refine am_aload_n 0 dM_thrown_0 rfl rfl ?_
  refine go_M_code dM_thrown_1 (am_tw kw_659 rfl) ?_
  exact am_iret dM_thrown_4 rfl (Nat.le_of_ble_eq_true rfl) (Nat.le_of_ble_eq_true rfl) ⟨_, _, _, rfl, rfl, h⟩
section
variable {l : Launch} {D : va_G} {aC : Nat → ClassId} {ad : Nat → Nat} {own : String} {cc : ByteArray} {nL : Nat} {ret : Option FieldType} {ini : Bool} {tb : List (Nat × Nat × Nat × Nat)} {G : State → (Nat → Prop) → Prop} {rm : Room} {mc ms k n pc idx : Nat} {L : List (Nat × Value)} {st rest : List Value} {I : am_MI} {J : am_MJ} {Q : Option Value → va_W → Prop} {X : String → va_W → Prop}
theorem kV_M_thrown {K : Int32 → am_MI → am_MJ → Prop} {X1 : String → am_MI → am_MJ → Prop} (hd : decode cc pc = .ok (.invokevirtual idx, 3)) (hlink : Cond.methodLink own idx yM_thrown ∈ am_TW) (hcat : (rest.map fun v => v.category).sum ≤ 8) (hR : 1 + 1 ≤ rm.frames ∧ 8 + (1 + 11) + 38 * 1 ≤ rm.locals) (hk : k + 1 ≤ rm.cells ∧ n + 6 ≤ rm.slots) (hm : k ≤ mc ∧ n ≤ ms) (hlt : l.stackTraces = false) (h : w_M_thrown I J K X1) (kk : ∀ (r : Int32) (I1 : am_MI) (J1 : am_MJ), K r I1 J1 → am l D aC own cc nL ret ini [] G rm mc ms k n (pc + 3) L (.int r :: rest) (am_w ad aC I1 J1) Q (am_lx ad aC X1)) : am l D aC own cc nL ret ini [] G rm mc ms k n pc L (.ref (ad 28) :: rest) (am_w ad aC I J) Q (am_lx ad aC X1) := by
  refine am_callV 28 6 (As := []) (N9 := 0) (t_M_thrown hlt h) hd rfl (am_w_at ad aC I J (by omega)) rfl hlink (am_tw kw_744 rfl) (am_tw kw_742 rfl) (am_tw kw_743 rfl) (am_tw kw_7 rfl) (by decide +kernel) rfl hcat ⟨rfl, rfl⟩ hR hk (fun E ws1 hx => am_out (fun x hx => nomatch hx) (Nat.add_le_add_right hm.1 1) (Nat.add_le_add_right hm.2 6) hx) ?_
  intro v ws1 hq
  obtain ⟨r, I1, J1, rfl, rfl, hq⟩ := hq
  exact kk r I1 J1 hq
end
def w_M_create_77 (x1 : Int32) (x2 : Int32) (xs0 : Int32) (I : am_MI) (J : am_MJ) (Q : Int32 → am_MI → am_MJ → Prop) (X : String → am_MI → am_MJ → Prop) (P34 : Int32 → am_MI → am_MJ → Prop) : Prop :=
  (((am_ui I 28 0 xs0) 28 0) ≤ 0 → (w_M_drop x2 (am_ui I 28 0 xs0) J (fun (I9 : am_MI) (J10 : am_MJ) => vp_in x2 8 ∧ (Q x2 (am_ui I9 31 x2.toNatClampNeg x1) J10)) X)) ∧ (¬ (((am_ui I 28 0 xs0) 28 0) ≤ 0) → (Q 0 (am_ui I 28 0 xs0) J))
set_option maxRecDepth 20000 in
theorem t_M_create_77 {l : Launch} {D : va_G} {aC : Nat → ClassId} {ad : Nat → Nat} (hlt : l.stackTraces = false) {x1 : Int32} {x2 : Int32} {xs0 : Int32} {I : am_MI} {J : am_MJ} {Q} {X} {P34 : Int32 → am_MI → am_MJ → Prop} (uP34 : ∀ (x2 : Int32) (I : am_MI) (J : am_MJ), P34 x2 I J → am l D aC "BubbleBoxModel" cM_create 3 (some .int) false [] am_G0 (am_rm 2) 0 0 0 0 34 [(0, .ref (ad 28)), (1, .int x1), (2, .int x2)] [] (am_w ad aC I J) (am_li ad aC Q) (am_lx ad aC X)) (h : w_M_create_77 x1 x2 xs0 I J Q X P34) : am l D aC "BubbleBoxModel" cM_create 3 (some .int) false [] am_G0 (am_rm 2) 0 0 0 0 77 [(0, .ref (ad 28)), (1, .int x1), (2, .int x2)] [.int xs0, .ref (ad 28)] (am_w ad aC I J) (am_li ad aC Q) (am_lx ad aC X) := by
  unfold w_M_create_77 at h
  refine po_M_code dM_create_77 (am_tw kw_659 rfl) ?_
  refine am_aload_n 0 dM_create_80 rfl rfl ?_
  refine go_M_code dM_create_81 (am_tw kw_659 rfl) ?_
  refine am_if_le 89 dM_create_84 (by decide) (fun hc8 => ?_) (fun hc8 => ?_)
  · replace h := h.1 hc8
    refine am_aload_n 0 dM_create_89 rfl rfl ?_
    refine am_iload_n 2 dM_create_90 rfl rfl ?_
    refine kV_M_drop dM_create_91 (am_tw kw_655 rfl) (Nat.le_of_ble_eq_true rfl) ⟨Nat.le_of_ble_eq_true rfl, Nat.le_of_ble_eq_true rfl⟩ ⟨Nat.le_of_ble_eq_true rfl, Nat.le_of_ble_eq_true rfl⟩ ⟨Nat.le_of_ble_eq_true rfl, Nat.le_of_ble_eq_true rfl⟩ hlt h (fun I9 J10 h => ?_)
    refine am_aload_n 0 dM_create_94 rfl rfl ?_
    refine go_M_name dM_create_95 (am_tw kw_668 rfl) ?_
    refine am_iload_n 2 dM_create_98 rfl rfl ?_
    refine am_iload_n 1 dM_create_99 rfl rfl ?_
    obtain ⟨hi12, h⟩ := h
    refine st_31 hi12 dM_create_100 ?_
    refine am_iload_n 2 dM_create_101 rfl rfl ?_
    exact am_iret dM_create_102 rfl (Nat.le_of_ble_eq_true rfl) (Nat.le_of_ble_eq_true rfl) ⟨_, _, _, rfl, rfl, h⟩
  · replace h := h.2 hc8
    refine am_iconst (v := 0) dM_create_87 (by decide) ?_
    exact am_iret dM_create_88 rfl (Nat.le_of_ble_eq_true rfl) (Nat.le_of_ble_eq_true rfl) ⟨_, _, _, rfl, rfl, h⟩

def w_M_create_73 (x1 : Int32) (x2 : Int32) (I : am_MI) (J : am_MJ) (Q : Int32 → am_MI → am_MJ → Prop) (X : String → am_MI → am_MJ → Prop) (P34 : Int32 → am_MI → am_MJ → Prop) : Prop :=
  w_M_create_77 x1 x2 (I 28 0) I J Q X P34
set_option maxRecDepth 20000 in
theorem t_M_create_73 {l : Launch} {D : va_G} {aC : Nat → ClassId} {ad : Nat → Nat} (hlt : l.stackTraces = false) {x1 : Int32} {x2 : Int32} {I : am_MI} {J : am_MJ} {Q} {X} {P34 : Int32 → am_MI → am_MJ → Prop} (uP34 : ∀ (x2 : Int32) (I : am_MI) (J : am_MJ), P34 x2 I J → am l D aC "BubbleBoxModel" cM_create 3 (some .int) false [] am_G0 (am_rm 2) 0 0 0 0 34 [(0, .ref (ad 28)), (1, .int x1), (2, .int x2)] [] (am_w ad aC I J) (am_li ad aC Q) (am_lx ad aC X)) (h : w_M_create_73 x1 x2 I J Q X P34) : am l D aC "BubbleBoxModel" cM_create 3 (some .int) false [] am_G0 (am_rm 2) 0 0 0 0 73 [(0, .ref (ad 28)), (1, .int x1), (2, .int x2)] [.ref (ad 28)] (am_w ad aC I J) (am_li ad aC Q) (am_lx ad aC X) := by
  unfold w_M_create_73 at h
  refine am_aload_n 0 dM_create_73 rfl rfl ?_
  refine go_M_code dM_create_74 (am_tw kw_659 rfl) ?_
  exact am_sub [0, 1, 2] rfl (t_M_create_77 hlt uP34 h)

def w_M_create_55 (x1 : Int32) (x2 : Int32) (I : am_MI) (J : am_MJ) (Q : Int32 → am_MI → am_MJ → Prop) (X : String → am_MI → am_MJ → Prop) (P34 : Int32 → am_MI → am_MJ → Prop) : Prop :=
  (¬ (I 28 0) = 0 → (w_M_create_73 x1 x2 I J Q X P34)) ∧ ((I 28 0) = 0 → ((¬ x2 = (8 : Int32) → (w_M_create_73 x1 x2 I J Q X P34)) ∧ (x2 = (8 : Int32) → (w_M_create_77 x1 x2 (3 : Int32) I J Q X P34))))
set_option maxRecDepth 20000 in
theorem t_M_create_55 {l : Launch} {D : va_G} {aC : Nat → ClassId} {ad : Nat → Nat} (hlt : l.stackTraces = false) {x1 : Int32} {x2 : Int32} {I : am_MI} {J : am_MJ} {Q} {X} {P34 : Int32 → am_MI → am_MJ → Prop} (uP34 : ∀ (x2 : Int32) (I : am_MI) (J : am_MJ), P34 x2 I J → am l D aC "BubbleBoxModel" cM_create 3 (some .int) false [] am_G0 (am_rm 2) 0 0 0 0 34 [(0, .ref (ad 28)), (1, .int x1), (2, .int x2)] [] (am_w ad aC I J) (am_li ad aC Q) (am_lx ad aC X)) (h : w_M_create_55 x1 x2 I J Q X P34) : am l D aC "BubbleBoxModel" cM_create 3 (some .int) false [] am_G0 (am_rm 2) 0 0 0 0 55 [(0, .ref (ad 28)), (1, .int x1), (2, .int x2)] [] (am_w ad aC I J) (am_li ad aC Q) (am_lx ad aC X) := by
  unfold w_M_create_55 at h
  refine am_aload_n 0 dM_create_55 rfl rfl ?_
  refine am_aload_n 0 dM_create_56 rfl rfl ?_
  refine go_M_code dM_create_57 (am_tw kw_659 rfl) ?_
  refine am_if_ne 73 dM_create_60 (by decide) (fun hc7 => ?_) (fun hc7 => ?_)
  · replace h := h.1 hc7
    exact am_sub [0, 1, 2] rfl (t_M_create_73 hlt uP34 h)
  · replace h := h.2 hc7
    refine am_iload_n 2 dM_create_63 rfl rfl ?_
    refine am_bipush (v := 8) dM_create_64 (by decide) ?_
    refine am_icmp_ne 73 dM_create_66 (by decide) (fun hc13 => ?_) (fun hc13 => ?_)
    · replace h := h.1 hc13
      exact am_sub [0, 1, 2] rfl (t_M_create_73 hlt uP34 h)
    · replace h := h.2 hc13
      refine am_iconst (v := 3) dM_create_69 (by decide) ?_
      refine am_goto 77 dM_create_70 (by decide) ?_
      exact am_sub [0, 1, 2] rfl (t_M_create_77 hlt uP34 h)

def w_M_create_34 (x1 : Int32) (x2 : Int32) (I : am_MI) (J : am_MJ) (Q : Int32 → am_MI → am_MJ → Prop) (X : String → am_MI → am_MJ → Prop) : Prop :=
  ∀ P34 : Int32 → am_MI → am_MJ → Prop, (∀ (x2 : Int32) (I : am_MI) (J : am_MJ), (((8 : Int32) ≤ x2 → (w_M_create_55 x1 x2 I J Q X P34)) ∧ (¬ ((8 : Int32) ≤ x2) → (vp_in x2 8 ∧ (((I 31 x2.toNatClampNeg) = 0 → (w_M_create_55 x1 x2 I J Q X P34)) ∧ (¬ ((I 31 x2.toNatClampNeg) = 0) → (P34 (x2 + 1) I J)))))) → P34 x2 I J) → P34 x2 I J
set_option maxRecDepth 20000 in
theorem t_M_create_34 {l : Launch} {D : va_G} {aC : Nat → ClassId} {ad : Nat → Nat} (hlt : l.stackTraces = false) {x1 : Int32} {x2 : Int32} {I : am_MI} {J : am_MJ} {Q} {X} (h : w_M_create_34 x1 x2 I J Q X) : am l D aC "BubbleBoxModel" cM_create 3 (some .int) false [] am_G0 (am_rm 2) 0 0 0 0 34 [(0, .ref (ad 28)), (1, .int x1), (2, .int x2)] [] (am_w ad aC I J) (am_li ad aC Q) (am_lx ad aC X) := by
  unfold w_M_create_34 at h
  refine h (fun (x2 : Int32) (I : am_MI) (J : am_MJ) => am l D aC "BubbleBoxModel" cM_create 3 (some .int) false [] am_G0 (am_rm 2) 0 0 0 0 34 [(0, .ref (ad 28)), (1, .int x1), (2, .int x2)] [] (am_w ad aC I J) (am_li ad aC Q) (am_lx ad aC X)) (fun x2 I J h => ?_)
  refine am_iload_n 2 dM_create_34 rfl rfl ?_
  refine am_bipush (v := 8) dM_create_35 (by decide) ?_
  refine am_icmp_ge 55 dM_create_37 (by decide) (fun hc6 => ?_) (fun hc6 => ?_)
  · replace h := h.1 hc6
    exact am_sub [0, 1, 2] rfl (t_M_create_55 hlt (fun _ _ _ h => h) h)
  · replace h := h.2 hc6
    refine am_aload_n 0 dM_create_40 rfl rfl ?_
    refine go_M_name dM_create_41 (am_tw kw_668 rfl) ?_
    refine am_iload_n 2 dM_create_44 rfl rfl ?_
    obtain ⟨hi14, h⟩ := h
    refine ld_31 hi14 dM_create_45 ?_
    refine am_if_eq 55 dM_create_46 (by decide) (fun hc15 => ?_) (fun hc15 => ?_)
    · replace h := h.1 hc15
      exact am_sub [0, 1, 2] rfl (t_M_create_55 hlt (fun _ _ _ h => h) h)
    · replace h := h.2 hc15
      refine am_iinc (j := 2) (v := x2 + 1) (L2 := [(2, .int (x2 + 1)), (0, .ref (ad 28)), (1, .int x1)]) dM_create_49 rfl (congrArg (x2 + ·) (by decide : Int32.ofInt (1) = 1)) (Nat.le_of_ble_eq_true rfl) rfl ?_
      refine am_goto 34 dM_create_52 (by decide) ?_
      exact am_sub [1, 2, 0] rfl h

def w_M_create_29 (x1 : Int32) (xs0 : Int32) (I : am_MI) (J : am_MJ) (Q : Int32 → am_MI → am_MJ → Prop) (X : String → am_MI → am_MJ → Prop) : Prop :=
  w_M_create_34 x1 (0 : Int32) (am_ui I 28 0 xs0) J Q X
set_option maxRecDepth 20000 in
theorem t_M_create_29 {l : Launch} {D : va_G} {aC : Nat → ClassId} {ad : Nat → Nat} (hlt : l.stackTraces = false) {x1 : Int32} {xs0 : Int32} {I : am_MI} {J : am_MJ} {Q} {X} (h : w_M_create_29 x1 xs0 I J Q X) : am l D aC "BubbleBoxModel" cM_create 3 (some .int) false [] am_G0 (am_rm 2) 0 0 0 0 29 [(0, .ref (ad 28)), (1, .int x1)] [.int xs0, .ref (ad 28)] (am_w ad aC I J) (am_li ad aC Q) (am_lx ad aC X) := by
  unfold w_M_create_29 at h
  refine po_M_code dM_create_29 (am_tw kw_659 rfl) ?_
  refine am_iconst (v := 0) dM_create_32 (by decide) ?_
  refine am_istore_n (L2 := [(2, .int 0), (0, .ref (ad 28)), (1, .int x1)]) dM_create_33 rfl (Nat.le_of_ble_eq_true rfl) rfl ?_
  exact am_sub [1, 2, 0] rfl (t_M_create_34 hlt h)

def w_M_create_24 (x1 : Int32) (I : am_MI) (J : am_MJ) (Q : Int32 → am_MI → am_MJ → Prop) (X : String → am_MI → am_MJ → Prop) : Prop :=
  w_M_create_29 x1 (2 : Int32) I J Q X
set_option maxRecDepth 20000 in
theorem t_M_create_24 {l : Launch} {D : va_G} {aC : Nat → ClassId} {ad : Nat → Nat} (hlt : l.stackTraces = false) {x1 : Int32} {I : am_MI} {J : am_MJ} {Q} {X} (h : w_M_create_24 x1 I J Q X) : am l D aC "BubbleBoxModel" cM_create 3 (some .int) false [] am_G0 (am_rm 2) 0 0 0 0 24 [(0, .ref (ad 28)), (1, .int x1)] [.ref (ad 28)] (am_w ad aC I J) (am_li ad aC Q) (am_lx ad aC X) := by
  unfold w_M_create_24 at h
  refine am_iconst (v := 2) dM_create_24 (by decide) ?_
  refine am_goto 29 dM_create_25 (by decide) ?_
  exact am_sub [0, 1] rfl (t_M_create_29 hlt h)

def w_M_create (a0 : Int32) (I : am_MI) (J : am_MJ) (Q : Int32 → am_MI → am_MJ → Prop) (X : String → am_MI → am_MJ → Prop) : Prop :=
  w_M_isReady I J (fun (r3 : Int32) (I1 : am_MI) (J2 : am_MJ) => (¬ r3 = 0 → ((a0 = 0 → (w_M_create_24 a0 I1 J2 Q X)) ∧ (¬ (a0 = 0) → (w_M_numberOf a0 I1 J2 (fun (r18 : Int32) (I16 : am_MI) (J17 : am_MJ) => (r18 < 0 → (w_M_create_29 a0 (0 : Int32) I16 J17 Q X)) ∧ (¬ (r18 < 0) → (w_M_create_24 a0 I16 J17 Q X))) X)))) ∧ (r3 = 0 → (w_M_create_29 a0 (1 : Int32) I1 J2 Q X))) X
set_option maxRecDepth 20000 in
theorem t_M_create {l : Launch} {D : va_G} {aC : Nat → ClassId} {ad : Nat → Nat} (hlt : l.stackTraces = false) {a0 : Int32} {I : am_MI} {J : am_MJ} {Q} {X} (h : w_M_create a0 I J Q X) : am_c l D aC yM_create (.code yM_create cM_create 3 (some .int)) (am_rm 2) 0 0 [.ref (ad 28), .int a0] (am_w ad aC I J) (am_li ad aC Q) (am_lx ad aC X) := by
  unfold w_M_create at h
  refine am_of (ini := false) hlt (by decide +kernel) (Nat.le_of_ble_eq_true rfl) (fun h => nomatch h) ?_
  show am l D aC "BubbleBoxModel" cM_create 3 (some .int) false [] am_G0 (am_rm 2) 0 0 0 0 0 [(0, .ref (ad 28)), (1, .int a0)] [] (am_w ad aC I J) (am_li ad aC Q) (am_lx ad aC X)
  refine am_aload_n 0 dM_create_0 rfl rfl ?_
  refine am_aload_n 0 dM_create_1 rfl rfl ?_
  refine kV_M_isReady dM_create_2 (am_tw kw_836 rfl) (Nat.le_of_ble_eq_true rfl) ⟨Nat.le_of_ble_eq_true rfl, Nat.le_of_ble_eq_true rfl⟩ ⟨Nat.le_of_ble_eq_true rfl, Nat.le_of_ble_eq_true rfl⟩ ⟨Nat.le_of_ble_eq_true rfl, Nat.le_of_ble_eq_true rfl⟩ hlt h (fun r3 I1 J2 h => ?_)
  refine am_if_ne 12 dM_create_5 (by decide) (fun hc4 => ?_) (fun hc4 => ?_)
  · replace h := h.1 hc4
    refine am_iload_n 1 dM_create_12 rfl rfl ?_
    refine am_if_eq 24 dM_create_13 (by decide) (fun hc5 => ?_) (fun hc5 => ?_)
    · replace h := h.1 hc5
      exact am_sub [0, 1] rfl (t_M_create_24 hlt h)
    · replace h := h.2 hc5
      refine am_aload_n 0 dM_create_16 rfl rfl ?_
      refine am_iload_n 1 dM_create_17 rfl rfl ?_
      refine kV_M_numberOf dM_create_18 (am_tw kw_840 rfl) (Nat.le_of_ble_eq_true rfl) ⟨Nat.le_of_ble_eq_true rfl, Nat.le_of_ble_eq_true rfl⟩ ⟨Nat.le_of_ble_eq_true rfl, Nat.le_of_ble_eq_true rfl⟩ ⟨Nat.le_of_ble_eq_true rfl, Nat.le_of_ble_eq_true rfl⟩ hlt h (fun r18 I16 J17 h => ?_)
      refine am_if_lt 28 dM_create_21 (by decide) (fun hc19 => ?_) (fun hc19 => ?_)
      · replace h := h.1 hc19
        refine am_iconst (v := 0) dM_create_28 (by decide) ?_
        exact am_sub [0, 1] rfl (t_M_create_29 hlt h)
      · replace h := h.2 hc19
        exact am_sub [0, 1] rfl (t_M_create_24 hlt h)
  · replace h := h.2 hc4
    refine am_iconst (v := 1) dM_create_8 (by decide) ?_
    refine am_goto 29 dM_create_9 (by decide) ?_
    exact am_sub [0, 1] rfl (t_M_create_29 hlt h)
section
variable {l : Launch} {D : va_G} {aC : Nat → ClassId} {ad : Nat → Nat} {own : String} {cc : ByteArray} {nL : Nat} {ret : Option FieldType} {ini : Bool} {tb : List (Nat × Nat × Nat × Nat)} {G : State → (Nat → Prop) → Prop} {rm : Room} {mc ms k n pc idx : Nat} {L : List (Nat × Value)} {st rest : List Value} {I : am_MI} {J : am_MJ} {Q : Option Value → va_W → Prop} {X : String → va_W → Prop}
theorem kV_M_create {a0 : Int32} {K : Int32 → am_MI → am_MJ → Prop} {X1 : String → am_MI → am_MJ → Prop} (hd : decode cc pc = .ok (.invokevirtual idx, 3)) (hlink : Cond.methodLink own idx yM_create ∈ am_TW) (hcat : (rest.map fun v => v.category).sum ≤ 8) (hR : 2 + 1 ≤ rm.frames ∧ 8 + (3 + 11) + 38 * 2 ≤ rm.locals) (hk : k + 1 ≤ rm.cells ∧ n + 6 ≤ rm.slots) (hm : k ≤ mc ∧ n ≤ ms) (hlt : l.stackTraces = false) (h : w_M_create a0 I J K X1) (kk : ∀ (r : Int32) (I1 : am_MI) (J1 : am_MJ), K r I1 J1 → am l D aC own cc nL ret ini [] G rm mc ms k n (pc + 3) L (.int r :: rest) (am_w ad aC I1 J1) Q (am_lx ad aC X1)) : am l D aC own cc nL ret ini [] G rm mc ms k n pc L (.int a0 :: .ref (ad 28) :: rest) (am_w ad aC I J) Q (am_lx ad aC X1) := by
  refine am_callV 28 6 (As := [.int a0]) (N9 := 1) (t_M_create hlt h) hd rfl (am_w_at ad aC I J (by omega)) rfl hlink (am_tw kw_835 rfl) (am_tw kw_833 rfl) (am_tw kw_834 rfl) (am_tw kw_7 rfl) (by decide +kernel) rfl hcat ⟨rfl, rfl⟩ hR hk (fun E ws1 hx => am_out (fun x hx => nomatch hx) (Nat.add_le_add_right hm.1 1) (Nat.add_le_add_right hm.2 6) hx) ?_
  intro v ws1 hq
  obtain ⟨r, I1, J1, rfl, rfl, hq⟩ := hq
  exact kk r I1 J1 hq
end
def w_M_find_13 (x1 : Int32) (xs0 : Int32) (I : am_MI) (J : am_MJ) (Q : Int32 → am_MI → am_MJ → Prop) (X : String → am_MI → am_MJ → Prop) : Prop :=
  (((am_ui I 28 0 xs0) 28 0) ≤ 0 → (w_M_numberOf x1 (am_ui I 28 0 xs0) J (fun (r8 : Int32) (I6 : am_MI) (J7 : am_MJ) => Q r8 I6 J7) X)) ∧ (¬ (((am_ui I 28 0 xs0) 28 0) ≤ 0) → (Q 0 (am_ui I 28 0 xs0) J))
set_option maxRecDepth 20000 in
theorem t_M_find_13 {l : Launch} {D : va_G} {aC : Nat → ClassId} {ad : Nat → Nat} (hlt : l.stackTraces = false) {x1 : Int32} {xs0 : Int32} {I : am_MI} {J : am_MJ} {Q} {X} (h : w_M_find_13 x1 xs0 I J Q X) : am l D aC "BubbleBoxModel" cM_find 2 (some .int) false [] am_G0 (am_rm 2) 0 0 0 0 13 [(0, .ref (ad 28)), (1, .int x1)] [.int xs0, .ref (ad 28)] (am_w ad aC I J) (am_li ad aC Q) (am_lx ad aC X) := by
  unfold w_M_find_13 at h
  refine po_M_code dM_find_13 (am_tw kw_659 rfl) ?_
  refine am_aload_n 0 dM_find_16 rfl rfl ?_
  refine go_M_code dM_find_17 (am_tw kw_659 rfl) ?_
  refine am_if_le 27 dM_find_20 (by decide) (fun hc5 => ?_) (fun hc5 => ?_)
  · replace h := h.1 hc5
    refine am_aload_n 0 dM_find_27 rfl rfl ?_
    refine am_iload_n 1 dM_find_28 rfl rfl ?_
    refine kV_M_numberOf dM_find_29 (am_tw kw_840 rfl) (Nat.le_of_ble_eq_true rfl) ⟨Nat.le_of_ble_eq_true rfl, Nat.le_of_ble_eq_true rfl⟩ ⟨Nat.le_of_ble_eq_true rfl, Nat.le_of_ble_eq_true rfl⟩ ⟨Nat.le_of_ble_eq_true rfl, Nat.le_of_ble_eq_true rfl⟩ hlt h (fun r8 I6 J7 h => ?_)
    exact am_iret dM_find_32 rfl (Nat.le_of_ble_eq_true rfl) (Nat.le_of_ble_eq_true rfl) ⟨_, _, _, rfl, rfl, h⟩
  · replace h := h.2 hc5
    refine am_iconst (v := 0) dM_find_23 (by decide) ?_
    refine am_goto 32 dM_find_24 (by decide) ?_
    exact am_iret dM_find_32 rfl (Nat.le_of_ble_eq_true rfl) (Nat.le_of_ble_eq_true rfl) ⟨_, _, _, rfl, rfl, h⟩

def w_M_find (a0 : Int32) (I : am_MI) (J : am_MJ) (Q : Int32 → am_MI → am_MJ → Prop) (X : String → am_MI → am_MJ → Prop) : Prop :=
  w_M_isReady I J (fun (r3 : Int32) (I1 : am_MI) (J2 : am_MJ) => (r3 = 0 → (w_M_find_13 a0 (1 : Int32) I1 J2 Q X)) ∧ (¬ (r3 = 0) → (w_M_find_13 a0 (0 : Int32) I1 J2 Q X))) X
set_option maxRecDepth 20000 in
theorem t_M_find {l : Launch} {D : va_G} {aC : Nat → ClassId} {ad : Nat → Nat} (hlt : l.stackTraces = false) {a0 : Int32} {I : am_MI} {J : am_MJ} {Q} {X} (h : w_M_find a0 I J Q X) : am_c l D aC yM_find (.code yM_find cM_find 2 (some .int)) (am_rm 2) 0 0 [.ref (ad 28), .int a0] (am_w ad aC I J) (am_li ad aC Q) (am_lx ad aC X) := by
  unfold w_M_find at h
  refine am_of (ini := false) hlt (by decide +kernel) (Nat.le_of_ble_eq_true rfl) (fun h => nomatch h) ?_
  show am l D aC "BubbleBoxModel" cM_find 2 (some .int) false [] am_G0 (am_rm 2) 0 0 0 0 0 [(0, .ref (ad 28)), (1, .int a0)] [] (am_w ad aC I J) (am_li ad aC Q) (am_lx ad aC X)
  refine am_aload_n 0 dM_find_0 rfl rfl ?_
  refine am_aload_n 0 dM_find_1 rfl rfl ?_
  refine kV_M_isReady dM_find_2 (am_tw kw_836 rfl) (Nat.le_of_ble_eq_true rfl) ⟨Nat.le_of_ble_eq_true rfl, Nat.le_of_ble_eq_true rfl⟩ ⟨Nat.le_of_ble_eq_true rfl, Nat.le_of_ble_eq_true rfl⟩ ⟨Nat.le_of_ble_eq_true rfl, Nat.le_of_ble_eq_true rfl⟩ hlt h (fun r3 I1 J2 h => ?_)
  refine am_if_eq 12 dM_find_5 (by decide) (fun hc4 => ?_) (fun hc4 => ?_)
  · replace h := h.1 hc4
    refine am_iconst (v := 1) dM_find_12 (by decide) ?_
    exact am_sub [0, 1] rfl (t_M_find_13 hlt h)
  · replace h := h.2 hc4
    refine am_iconst (v := 0) dM_find_8 (by decide) ?_
    refine am_goto 13 dM_find_9 (by decide) ?_
    exact am_sub [0, 1] rfl (t_M_find_13 hlt h)
section
variable {l : Launch} {D : va_G} {aC : Nat → ClassId} {ad : Nat → Nat} {own : String} {cc : ByteArray} {nL : Nat} {ret : Option FieldType} {ini : Bool} {tb : List (Nat × Nat × Nat × Nat)} {G : State → (Nat → Prop) → Prop} {rm : Room} {mc ms k n pc idx : Nat} {L : List (Nat × Value)} {st rest : List Value} {I : am_MI} {J : am_MJ} {Q : Option Value → va_W → Prop} {X : String → va_W → Prop}
theorem kV_M_find {a0 : Int32} {K : Int32 → am_MI → am_MJ → Prop} {X1 : String → am_MI → am_MJ → Prop} (hd : decode cc pc = .ok (.invokevirtual idx, 3)) (hlink : Cond.methodLink own idx yM_find ∈ am_TW) (hcat : (rest.map fun v => v.category).sum ≤ 8) (hR : 2 + 1 ≤ rm.frames ∧ 8 + (2 + 11) + 38 * 2 ≤ rm.locals) (hk : k + 1 ≤ rm.cells ∧ n + 6 ≤ rm.slots) (hm : k ≤ mc ∧ n ≤ ms) (hlt : l.stackTraces = false) (h : w_M_find a0 I J K X1) (kk : ∀ (r : Int32) (I1 : am_MI) (J1 : am_MJ), K r I1 J1 → am l D aC own cc nL ret ini [] G rm mc ms k n (pc + 3) L (.int r :: rest) (am_w ad aC I1 J1) Q (am_lx ad aC X1)) : am l D aC own cc nL ret ini [] G rm mc ms k n pc L (.int a0 :: .ref (ad 28) :: rest) (am_w ad aC I J) Q (am_lx ad aC X1) := by
  refine am_callV 28 6 (As := [.int a0]) (N9 := 1) (t_M_find hlt h) hd rfl (am_w_at ad aC I J (by omega)) rfl hlink (am_tw kw_847 rfl) (am_tw kw_845 rfl) (am_tw kw_846 rfl) (am_tw kw_7 rfl) (by decide +kernel) rfl hcat ⟨rfl, rfl⟩ hR hk (fun E ws1 hx => am_out (fun x hx => nomatch hx) (Nat.add_le_add_right hm.1 1) (Nat.add_le_add_right hm.2 6) hx) ?_
  intro v ws1 hq
  obtain ⟨r, I1, J1, rfl, rfl, hq⟩ := hq
  exact kk r I1 J1 hq
end
def w_M_forget_26 (x1 : Int32) (I : am_MI) (J : am_MJ) (Q : am_MI → am_MJ → Prop) (X : String → am_MI → am_MJ → Prop) (P7 : Int32 → am_MI → am_MJ → Prop) : Prop :=
  ∀ P26 : Int32 → am_MI → am_MJ → Prop, (∀ (x1 : Int32) (I : am_MI) (J : am_MJ), (((101 : Int32) ≤ x1 → (Q (am_ui (am_ui I 28 20 (0 : Int32)) 28 25 (0 : Int32)) J)) ∧ (¬ ((101 : Int32) ≤ x1) → (vp_in x1 101 ∧ (P26 (x1 + 1) (am_ui I 37 x1.toNatClampNeg (vp_nar .boolean (0 : Int32))) J)))) → P26 x1 I J) → P26 x1 I J
set_option maxRecDepth 20000 in
theorem t_M_forget_26 {l : Launch} {D : va_G} {aC : Nat → ClassId} {ad : Nat → Nat} (hlt : l.stackTraces = false) {x1 : Int32} {I : am_MI} {J : am_MJ} {Q} {X} {P7 : Int32 → am_MI → am_MJ → Prop} (uP7 : ∀ (x1 : Int32) (I : am_MI) (J : am_MJ), P7 x1 I J → am l D aC "BubbleBoxModel" cM_forget 2 none false [] am_G0 (am_rm 2) 0 0 0 0 7 [(0, .ref (ad 28)), (1, .int x1)] [] (am_w ad aC I J) (am_lv ad aC Q) (am_lx ad aC X)) (h : w_M_forget_26 x1 I J Q X P7) : am l D aC "BubbleBoxModel" cM_forget 2 none false [] am_G0 (am_rm 2) 0 0 0 0 26 [(0, .ref (ad 28)), (1, .int x1)] [] (am_w ad aC I J) (am_lv ad aC Q) (am_lx ad aC X) := by
  unfold w_M_forget_26 at h
  refine h (fun (x1 : Int32) (I : am_MI) (J : am_MJ) => am l D aC "BubbleBoxModel" cM_forget 2 none false [] am_G0 (am_rm 2) 0 0 0 0 26 [(0, .ref (ad 28)), (1, .int x1)] [] (am_w ad aC I J) (am_lv ad aC Q) (am_lx ad aC X)) (fun x1 I J h => ?_)
  refine am_iload_n 1 dM_forget_26 rfl rfl ?_
  refine am_bipush (v := 101) dM_forget_27 (by decide) ?_
  refine am_icmp_ge 45 dM_forget_29 (by decide) (fun hc2 => ?_) (fun hc2 => ?_)
  · replace h := h.1 hc2
    refine am_aload_n 0 dM_forget_45 rfl rfl ?_
    refine am_iconst (v := 0) dM_forget_46 (by decide) ?_
    refine po_M_requests dM_forget_47 (am_tw kw_679 rfl) ?_
    refine am_aload_n 0 dM_forget_50 rfl rfl ?_
    refine am_iconst (v := 0) dM_forget_51 (by decide) ?_
    refine po_M_answers dM_forget_52 (am_tw kw_684 rfl) ?_
    exact am_vret dM_forget_55 rfl (Nat.le_of_ble_eq_true rfl) (Nat.le_of_ble_eq_true rfl) ⟨_, _, rfl, rfl, h⟩
  · replace h := h.2 hc2
    refine am_aload_n 0 dM_forget_32 rfl rfl ?_
    refine go_M_held dM_forget_33 (am_tw kw_676 rfl) ?_
    refine am_iload_n 1 dM_forget_36 rfl rfl ?_
    refine am_iconst (v := 0) dM_forget_37 (by decide) ?_
    obtain ⟨hi3, h⟩ := h
    refine st_37 hi3 dM_forget_38 ?_
    refine am_iinc (j := 1) (v := x1 + 1) (L2 := [(1, .int (x1 + 1)), (0, .ref (ad 28))]) dM_forget_39 rfl (congrArg (x1 + ·) (by decide : Int32.ofInt (1) = 1)) (Nat.le_of_ble_eq_true rfl) rfl ?_
    refine am_goto 26 dM_forget_42 (by decide) ?_
    exact am_sub [1, 0] rfl h

def w_M_forget_7 (x1 : Int32) (I : am_MI) (J : am_MJ) (Q : am_MI → am_MJ → Prop) (X : String → am_MI → am_MJ → Prop) : Prop :=
  ∀ P7 : Int32 → am_MI → am_MJ → Prop, (∀ (x1 : Int32) (I : am_MI) (J : am_MJ), (((8 : Int32) ≤ x1 → (w_M_forget_26 (0 : Int32) I J Q X P7)) ∧ (¬ ((8 : Int32) ≤ x1) → (w_M_drop x1 I J (fun (I4 : am_MI) (J5 : am_MJ) => P7 (x1 + 1) I4 J5) X))) → P7 x1 I J) → P7 x1 I J
set_option maxRecDepth 20000 in
theorem t_M_forget_7 {l : Launch} {D : va_G} {aC : Nat → ClassId} {ad : Nat → Nat} (hlt : l.stackTraces = false) {x1 : Int32} {I : am_MI} {J : am_MJ} {Q} {X} (h : w_M_forget_7 x1 I J Q X) : am l D aC "BubbleBoxModel" cM_forget 2 none false [] am_G0 (am_rm 2) 0 0 0 0 7 [(0, .ref (ad 28)), (1, .int x1)] [] (am_w ad aC I J) (am_lv ad aC Q) (am_lx ad aC X) := by
  unfold w_M_forget_7 at h
  refine h (fun (x1 : Int32) (I : am_MI) (J : am_MJ) => am l D aC "BubbleBoxModel" cM_forget 2 none false [] am_G0 (am_rm 2) 0 0 0 0 7 [(0, .ref (ad 28)), (1, .int x1)] [] (am_w ad aC I J) (am_lv ad aC Q) (am_lx ad aC X)) (fun x1 I J h => ?_)
  refine am_iload_n 1 dM_forget_7 rfl rfl ?_
  refine am_bipush (v := 8) dM_forget_8 (by decide) ?_
  refine am_icmp_ge 24 dM_forget_10 (by decide) (fun hc1 => ?_) (fun hc1 => ?_)
  · replace h := h.1 hc1
    refine am_iconst (v := 0) dM_forget_24 (by decide) ?_
    refine am_istore_n (L2 := [(1, .int 0), (0, .ref (ad 28))]) dM_forget_25 rfl (Nat.le_of_ble_eq_true rfl) rfl ?_
    exact am_sub [1, 0] rfl (t_M_forget_26 hlt (fun _ _ _ h => h) h)
  · replace h := h.2 hc1
    refine am_aload_n 0 dM_forget_13 rfl rfl ?_
    refine am_iload_n 1 dM_forget_14 rfl rfl ?_
    refine kV_M_drop dM_forget_15 (am_tw kw_655 rfl) (Nat.le_of_ble_eq_true rfl) ⟨Nat.le_of_ble_eq_true rfl, Nat.le_of_ble_eq_true rfl⟩ ⟨Nat.le_of_ble_eq_true rfl, Nat.le_of_ble_eq_true rfl⟩ ⟨Nat.le_of_ble_eq_true rfl, Nat.le_of_ble_eq_true rfl⟩ hlt h (fun I4 J5 h => ?_)
    refine am_iinc (j := 1) (v := x1 + 1) (L2 := [(1, .int (x1 + 1)), (0, .ref (ad 28))]) dM_forget_18 rfl (congrArg (x1 + ·) (by decide : Int32.ofInt (1) = 1)) (Nat.le_of_ble_eq_true rfl) rfl ?_
    refine am_goto 7 dM_forget_21 (by decide) ?_
    exact am_sub [1, 0] rfl h

def w_M_forget (I : am_MI) (J : am_MJ) (Q : am_MI → am_MJ → Prop) (X : String → am_MI → am_MJ → Prop) : Prop :=
  w_M_forget_7 (0 : Int32) (am_ui I 28 8 (0 : Int32)) J Q X
set_option maxRecDepth 20000 in
theorem t_M_forget {l : Launch} {D : va_G} {aC : Nat → ClassId} {ad : Nat → Nat} (hlt : l.stackTraces = false) {I : am_MI} {J : am_MJ} {Q} {X} (h : w_M_forget I J Q X) : am_c l D aC yM_forget (.code yM_forget cM_forget 2 none) (am_rm 2) 0 0 [.ref (ad 28)] (am_w ad aC I J) (am_lv ad aC Q) (am_lx ad aC X) := by
  unfold w_M_forget at h
  refine am_of (ini := false) hlt (by decide +kernel) (Nat.le_of_ble_eq_true rfl) (fun h => nomatch h) ?_
  show am l D aC "BubbleBoxModel" cM_forget 2 none false [] am_G0 (am_rm 2) 0 0 0 0 0 [(0, .ref (ad 28))] [] (am_w ad aC I J) (am_lv ad aC Q) (am_lx ad aC X)
  refine am_aload_n 0 dM_forget_0 rfl rfl ?_
  refine am_iconst (v := 0) dM_forget_1 (by decide) ?_
  refine po_M_mounted dM_forget_2 (am_tw kw_667 rfl) (by decide) ?_
  refine am_iconst (v := 0) dM_forget_5 (by decide) ?_
  refine am_istore_n (L2 := [(1, .int 0), (0, .ref (ad 28))]) dM_forget_6 rfl (Nat.le_of_ble_eq_true rfl) rfl ?_
  exact am_sub [1, 0] rfl (t_M_forget_7 hlt h)
section
variable {l : Launch} {D : va_G} {aC : Nat → ClassId} {ad : Nat → Nat} {own : String} {cc : ByteArray} {nL : Nat} {ret : Option FieldType} {ini : Bool} {tb : List (Nat × Nat × Nat × Nat)} {G : State → (Nat → Prop) → Prop} {rm : Room} {mc ms k n pc idx : Nat} {L : List (Nat × Value)} {st rest : List Value} {I : am_MI} {J : am_MJ} {Q : Option Value → va_W → Prop} {X : String → va_W → Prop}
theorem kV_M_forget {K : am_MI → am_MJ → Prop} {X1 : String → am_MI → am_MJ → Prop} (hd : decode cc pc = .ok (.invokevirtual idx, 3)) (hlink : Cond.methodLink own idx yM_forget ∈ am_TW) (hcat : (rest.map fun v => v.category).sum ≤ 8) (hR : 2 + 1 ≤ rm.frames ∧ 8 + (2 + 11) + 38 * 2 ≤ rm.locals) (hk : k + 1 ≤ rm.cells ∧ n + 6 ≤ rm.slots) (hm : k ≤ mc ∧ n ≤ ms) (hlt : l.stackTraces = false) (h : w_M_forget I J K X1) (kk : ∀ (I1 : am_MI) (J1 : am_MJ), K I1 J1 → am l D aC own cc nL ret ini [] G rm mc ms k n (pc + 3) L rest (am_w ad aC I1 J1) Q (am_lx ad aC X1)) : am l D aC own cc nL ret ini [] G rm mc ms k n pc L (.ref (ad 28) :: rest) (am_w ad aC I J) Q (am_lx ad aC X1) := by
  refine am_callV 28 6 (As := []) (N9 := 0) (t_M_forget hlt h) hd rfl (am_w_at ad aC I J (by omega)) rfl hlink (am_tw kw_654 rfl) (am_tw kw_653 rfl) ks_50 (am_tw kw_7 rfl) (by decide +kernel) rfl hcat ⟨rfl, rfl⟩ hR hk (fun E ws1 hx => am_out (fun x hx => nomatch hx) (Nat.add_le_add_right hm.1 1) (Nat.add_le_add_right hm.2 6) hx) ?_
  intro v ws1 hq
  obtain ⟨I1, J1, rfl, rfl, hq⟩ := hq
  exact kk I1 J1 hq
end
def w_M_isUsed_13 (x1 : Int32) (x3 : Int32) (x2 : Int32) (x4 : Int32) (I : am_MI) (J : am_MJ) (Q : Int32 → am_MI → am_MJ → Prop) (X : String → am_MI → am_MJ → Prop) (P4 : Int32 → Int32 → am_MI → am_MJ → Prop) : Prop :=
  ∀ P13 : Int32 → Int32 → am_MI → am_MJ → Prop, (∀ (x2 : Int32) (x4 : Int32) (I : am_MI) (J : am_MJ), (w_M_pages x3 I J (fun (r4 : Int32) (I2 : am_MI) (J3 : am_MJ) => (r4 ≤ x4 → (P4 x2 (x3 + 1) I2 J3)) ∧ (¬ (r4 ≤ x4) → ((¬ x2 = 0 → (P13 (1 : Int32) (x4 + 1) I2 J3)) ∧ (x2 = 0 → (vp_in (((64 : Int32) * x3) + x4) 512 ∧ ((¬ (I2 33 (((64 : Int32) * x3) + x4).toNatClampNeg) = x1 → (P13 (0 : Int32) (x4 + 1) I2 J3)) ∧ ((I2 33 (((64 : Int32) * x3) + x4).toNatClampNeg) = x1 → (P13 (1 : Int32) (x4 + 1) I2 J3)))))))) X) → P13 x2 x4 I J) → P13 x2 x4 I J
set_option maxRecDepth 20000 in
theorem t_M_isUsed_13 {l : Launch} {D : va_G} {aC : Nat → ClassId} {ad : Nat → Nat} (hlt : l.stackTraces = false) {x1 : Int32} {x3 : Int32} {x2 : Int32} {x4 : Int32} {I : am_MI} {J : am_MJ} {Q} {X} {P4 : Int32 → Int32 → am_MI → am_MJ → Prop} (uP4 : ∀ (x2 : Int32) (x3 : Int32) (I : am_MI) (J : am_MJ), P4 x2 x3 I J → am l D aC "BubbleBoxModel" cM_isUsed 5 (some .boolean) false [] am_G0 (am_rm 2) 0 0 0 0 4 [(0, .ref (ad 28)), (1, .int x1), (2, .int x2), (3, .int x3)] [] (am_w ad aC I J) (am_li ad aC Q) (am_lx ad aC X)) (h : w_M_isUsed_13 x1 x3 x2 x4 I J Q X P4) : am l D aC "BubbleBoxModel" cM_isUsed 5 (some .boolean) false [] am_G0 (am_rm 2) 0 0 0 0 13 [(0, .ref (ad 28)), (1, .int x1), (2, .int x2), (3, .int x3), (4, .int x4)] [] (am_w ad aC I J) (am_li ad aC Q) (am_lx ad aC X) := by
  unfold w_M_isUsed_13 at h
  refine h (fun (x2 : Int32) (x4 : Int32) (I : am_MI) (J : am_MJ) => am l D aC "BubbleBoxModel" cM_isUsed 5 (some .boolean) false [] am_G0 (am_rm 2) 0 0 0 0 13 [(0, .ref (ad 28)), (1, .int x1), (2, .int x2), (3, .int x3), (4, .int x4)] [] (am_w ad aC I J) (am_li ad aC Q) (am_lx ad aC X)) (fun x2 x4 I J h => ?_)
  refine am_iload 4 dM_isUsed_13 rfl ?_
  refine am_aload_n 0 dM_isUsed_15 rfl rfl ?_
  refine am_iload_n 3 dM_isUsed_16 rfl rfl ?_
  refine kV_M_pages dM_isUsed_17 (am_tw kw_794 rfl) (Nat.le_of_ble_eq_true rfl) ⟨Nat.le_of_ble_eq_true rfl, Nat.le_of_ble_eq_true rfl⟩ ⟨Nat.le_of_ble_eq_true rfl, Nat.le_of_ble_eq_true rfl⟩ ⟨Nat.le_of_ble_eq_true rfl, Nat.le_of_ble_eq_true rfl⟩ hlt h (fun r4 I2 J3 h => ?_)
  refine am_icmp_ge 55 dM_isUsed_20 (by decide) (fun hc5 => ?_) (fun hc5 => ?_)
  · replace h := h.1 hc5
    refine am_iinc (j := 3) (v := x3 + 1) (L2 := [(3, .int (x3 + 1)), (0, .ref (ad 28)), (1, .int x1), (2, .int x2), (4, .int x4)]) dM_isUsed_55 rfl (congrArg (x3 + ·) (by decide : Int32.ofInt (1) = 1)) (Nat.le_of_ble_eq_true rfl) rfl ?_
    refine am_goto 4 dM_isUsed_58 (by decide) ?_
    exact am_sub [1, 2, 3, 0] rfl (uP4 _ _ _ _ h)
  · replace h := h.2 hc5
    refine am_iload_n 2 dM_isUsed_23 rfl rfl ?_
    refine am_if_ne 43 dM_isUsed_24 (by decide) (fun hc6 => ?_) (fun hc6 => ?_)
    · replace h := h.1 hc6
      refine am_iconst (v := 1) dM_isUsed_43 (by decide) ?_
      refine am_goto 48 dM_isUsed_44 (by decide) ?_
      refine am_istore_n (L2 := [(2, .int 1), (0, .ref (ad 28)), (1, .int x1), (3, .int x3), (4, .int x4)]) dM_isUsed_48 rfl (Nat.le_of_ble_eq_true rfl) rfl ?_
      refine am_iinc (j := 4) (v := x4 + 1) (L2 := [(4, .int (x4 + 1)), (2, .int 1), (0, .ref (ad 28)), (1, .int x1), (3, .int x3)]) dM_isUsed_49 rfl (congrArg (x4 + ·) (by decide : Int32.ofInt (1) = 1)) (Nat.le_of_ble_eq_true rfl) rfl ?_
      refine am_goto 13 dM_isUsed_52 (by decide) ?_
      exact am_sub [2, 3, 1, 4, 0] rfl h
    · replace h := h.2 hc6
      refine am_aload_n 0 dM_isUsed_27 rfl rfl ?_
      refine go_M_chain dM_isUsed_28 (am_tw kw_670 rfl) ?_
      refine am_bipush (v := 64) dM_isUsed_31 (by decide) ?_
      refine am_iload_n 3 dM_isUsed_33 rfl rfl ?_
      refine am_imul dM_isUsed_34 ?_
      refine am_iload 4 dM_isUsed_35 rfl ?_
      refine am_iadd dM_isUsed_37 ?_
      obtain ⟨hi7, h⟩ := h
      refine ld_33 hi7 dM_isUsed_38 ?_
      refine am_iload_n 1 dM_isUsed_39 rfl rfl ?_
      refine am_icmp_ne 47 dM_isUsed_40 (by decide) (fun hc8 => ?_) (fun hc8 => ?_)
      · replace h := h.1 hc8
        refine am_iconst (v := 0) dM_isUsed_47 (by decide) ?_
        refine am_istore_n (L2 := [(2, .int 0), (0, .ref (ad 28)), (1, .int x1), (3, .int x3), (4, .int x4)]) dM_isUsed_48 rfl (Nat.le_of_ble_eq_true rfl) rfl ?_
        refine am_iinc (j := 4) (v := x4 + 1) (L2 := [(4, .int (x4 + 1)), (2, .int 0), (0, .ref (ad 28)), (1, .int x1), (3, .int x3)]) dM_isUsed_49 rfl (congrArg (x4 + ·) (by decide : Int32.ofInt (1) = 1)) (Nat.le_of_ble_eq_true rfl) rfl ?_
        refine am_goto 13 dM_isUsed_52 (by decide) ?_
        exact am_sub [2, 3, 1, 4, 0] rfl h
      · replace h := h.2 hc8
        refine am_iconst (v := 1) dM_isUsed_43 (by decide) ?_
        refine am_goto 48 dM_isUsed_44 (by decide) ?_
        refine am_istore_n (L2 := [(2, .int 1), (0, .ref (ad 28)), (1, .int x1), (3, .int x3), (4, .int x4)]) dM_isUsed_48 rfl (Nat.le_of_ble_eq_true rfl) rfl ?_
        refine am_iinc (j := 4) (v := x4 + 1) (L2 := [(4, .int (x4 + 1)), (2, .int 1), (0, .ref (ad 28)), (1, .int x1), (3, .int x3)]) dM_isUsed_49 rfl (congrArg (x4 + ·) (by decide : Int32.ofInt (1) = 1)) (Nat.le_of_ble_eq_true rfl) rfl ?_
        refine am_goto 13 dM_isUsed_52 (by decide) ?_
        exact am_sub [2, 3, 1, 4, 0] rfl h

def w_M_isUsed_4 (x1 : Int32) (x2 : Int32) (x3 : Int32) (I : am_MI) (J : am_MJ) (Q : Int32 → am_MI → am_MJ → Prop) (X : String → am_MI → am_MJ → Prop) : Prop :=
  ∀ P4 : Int32 → Int32 → am_MI → am_MJ → Prop, (∀ (x2 : Int32) (x3 : Int32) (I : am_MI) (J : am_MJ), (((8 : Int32) ≤ x3 → ((x2 = 0 ∨ x2 = 1) ∧ Q x2 I J)) ∧ (¬ ((8 : Int32) ≤ x3) → (w_M_isUsed_13 x1 x3 x2 (0 : Int32) I J Q X P4))) → P4 x2 x3 I J) → P4 x2 x3 I J
set_option maxRecDepth 20000 in
theorem t_M_isUsed_4 {l : Launch} {D : va_G} {aC : Nat → ClassId} {ad : Nat → Nat} (hlt : l.stackTraces = false) {x1 : Int32} {x2 : Int32} {x3 : Int32} {I : am_MI} {J : am_MJ} {Q} {X} (h : w_M_isUsed_4 x1 x2 x3 I J Q X) : am l D aC "BubbleBoxModel" cM_isUsed 5 (some .boolean) false [] am_G0 (am_rm 2) 0 0 0 0 4 [(0, .ref (ad 28)), (1, .int x1), (2, .int x2), (3, .int x3)] [] (am_w ad aC I J) (am_li ad aC Q) (am_lx ad aC X) := by
  unfold w_M_isUsed_4 at h
  refine h (fun (x2 : Int32) (x3 : Int32) (I : am_MI) (J : am_MJ) => am l D aC "BubbleBoxModel" cM_isUsed 5 (some .boolean) false [] am_G0 (am_rm 2) 0 0 0 0 4 [(0, .ref (ad 28)), (1, .int x1), (2, .int x2), (3, .int x3)] [] (am_w ad aC I J) (am_li ad aC Q) (am_lx ad aC X)) (fun x2 x3 I J h => ?_)
  refine am_iload_n 3 dM_isUsed_4 rfl rfl ?_
  refine am_bipush (v := 8) dM_isUsed_5 (by decide) ?_
  refine am_icmp_ge 61 dM_isUsed_7 (by decide) (fun hc1 => ?_) (fun hc1 => ?_)
  · replace h := h.1 hc1
    refine am_iload_n 2 dM_isUsed_61 rfl rfl ?_
    exact am_zret dM_isUsed_62 rfl (Nat.le_of_ble_eq_true rfl) (Nat.le_of_ble_eq_true rfl) h.1 ⟨_, _, _, rfl, rfl, h.2⟩
  · replace h := h.2 hc1
    refine am_iconst (v := 0) dM_isUsed_10 (by decide) ?_
    refine am_istore (L2 := [(4, .int 0), (0, .ref (ad 28)), (1, .int x1), (2, .int x2), (3, .int x3)]) dM_isUsed_11 (Nat.le_of_ble_eq_true rfl) rfl ?_
    exact am_sub [1, 2, 3, 4, 0] rfl (t_M_isUsed_13 hlt (fun _ _ _ _ h => h) h)

def w_M_isUsed (a0 : Int32) (I : am_MI) (J : am_MJ) (Q : Int32 → am_MI → am_MJ → Prop) (X : String → am_MI → am_MJ → Prop) : Prop :=
  w_M_isUsed_4 a0 (0 : Int32) (0 : Int32) I J Q X
set_option maxRecDepth 20000 in
theorem t_M_isUsed {l : Launch} {D : va_G} {aC : Nat → ClassId} {ad : Nat → Nat} (hlt : l.stackTraces = false) {a0 : Int32} {I : am_MI} {J : am_MJ} {Q} {X} (h : w_M_isUsed a0 I J Q X) : am_c l D aC yM_isUsed (.code yM_isUsed cM_isUsed 5 (some .boolean)) (am_rm 2) 0 0 [.ref (ad 28), .int a0] (am_w ad aC I J) (am_li ad aC Q) (am_lx ad aC X) := by
  unfold w_M_isUsed at h
  refine am_of (ini := false) hlt (by decide +kernel) (Nat.le_of_ble_eq_true rfl) (fun h => nomatch h) ?_
  show am l D aC "BubbleBoxModel" cM_isUsed 5 (some .boolean) false [] am_G0 (am_rm 2) 0 0 0 0 0 [(0, .ref (ad 28)), (1, .int a0)] [] (am_w ad aC I J) (am_li ad aC Q) (am_lx ad aC X)
  refine am_iconst (v := 0) dM_isUsed_0 (by decide) ?_
  refine am_istore_n (L2 := [(2, .int 0), (0, .ref (ad 28)), (1, .int a0)]) dM_isUsed_1 rfl (Nat.le_of_ble_eq_true rfl) rfl ?_
  refine am_iconst (v := 0) dM_isUsed_2 (by decide) ?_
  refine am_istore_n (L2 := [(3, .int 0), (2, .int 0), (0, .ref (ad 28)), (1, .int a0)]) dM_isUsed_3 rfl (Nat.le_of_ble_eq_true rfl) rfl ?_
  exact am_sub [2, 3, 1, 0] rfl (t_M_isUsed_4 hlt h)
section
variable {l : Launch} {D : va_G} {aC : Nat → ClassId} {ad : Nat → Nat} {own : String} {cc : ByteArray} {nL : Nat} {ret : Option FieldType} {ini : Bool} {tb : List (Nat × Nat × Nat × Nat)} {G : State → (Nat → Prop) → Prop} {rm : Room} {mc ms k n pc idx : Nat} {L : List (Nat × Value)} {st rest : List Value} {I : am_MI} {J : am_MJ} {Q : Option Value → va_W → Prop} {X : String → va_W → Prop}
theorem kV_M_isUsed {a0 : Int32} {K : Int32 → am_MI → am_MJ → Prop} {X1 : String → am_MI → am_MJ → Prop} (hd : decode cc pc = .ok (.invokevirtual idx, 3)) (hlink : Cond.methodLink own idx yM_isUsed ∈ am_TW) (hcat : (rest.map fun v => v.category).sum ≤ 8) (hR : 2 + 1 ≤ rm.frames ∧ 8 + (5 + 11) + 38 * 2 ≤ rm.locals) (hk : k + 1 ≤ rm.cells ∧ n + 6 ≤ rm.slots) (hm : k ≤ mc ∧ n ≤ ms) (hlt : l.stackTraces = false) (h : w_M_isUsed a0 I J K X1) (kk : ∀ (r : Int32) (I1 : am_MI) (J1 : am_MJ), K r I1 J1 → am l D aC own cc nL ret ini [] G rm mc ms k n (pc + 3) L (.int r :: rest) (am_w ad aC I1 J1) Q (am_lx ad aC X1)) : am l D aC own cc nL ret ini [] G rm mc ms k n pc L (.int a0 :: .ref (ad 28) :: rest) (am_w ad aC I J) Q (am_lx ad aC X1) := by
  refine am_callV 28 6 (As := [.int a0]) (N9 := 1) (t_M_isUsed hlt h) hd rfl (am_w_at ad aC I J (by omega)) rfl hlink (am_tw kw_815 rfl) (am_tw kw_814 rfl) ks_63 (am_tw kw_7 rfl) (by decide +kernel) rfl hcat ⟨rfl, rfl⟩ hR hk (fun E ws1 hx => am_out (fun x hx => nomatch hx) (Nat.add_le_add_right hm.1 1) (Nat.add_le_add_right hm.2 6) hx) ?_
  intro v ws1 hq
  obtain ⟨r, I1, J1, rfl, rfl, hq⟩ := hq
  exact kk r I1 J1 hq
end

def w_M_isValid (I : am_MI) (J : am_MJ) (Q : Int32 → am_MI → am_MJ → Prop) (X : String → am_MI → am_MJ → Prop) : Prop :=
  w_M_getBytes (158 : Int32) (2 : Int32) I J (fun (r3 : Int32) (I1 : am_MI) (J2 : am_MJ) => w_M_sumOfImage I1 J2 (fun (r6 : Int32) (I4 : am_MI) (J5 : am_MJ) => (¬ r3 = r6 → (Q 0 I4 J5)) ∧ (r3 = r6 → (Q 1 I4 J5))) X) X
set_option maxRecDepth 20000 in
theorem t_M_isValid {l : Launch} {D : va_G} {aC : Nat → ClassId} {ad : Nat → Nat} (hlt : l.stackTraces = false) {I : am_MI} {J : am_MJ} {Q} {X} (h : w_M_isValid I J Q X) : am_c l D aC yM_isValid (.code yM_isValid cM_isValid 1 (some .boolean)) (am_rm 2) 0 0 [.ref (ad 28)] (am_w ad aC I J) (am_li ad aC Q) (am_lx ad aC X) := by
  unfold w_M_isValid at h
  refine am_of (ini := false) hlt (by decide +kernel) (Nat.le_of_ble_eq_true rfl) (fun h => nomatch h) ?_
  show am l D aC "BubbleBoxModel" cM_isValid 1 (some .boolean) false [] am_G0 (am_rm 2) 0 0 0 0 0 [(0, .ref (ad 28))] [] (am_w ad aC I J) (am_li ad aC Q) (am_lx ad aC X)
  refine am_aload_n 0 dM_isValid_0 rfl rfl ?_
  refine am_sipush (v := 158) dM_isValid_1 (by decide) ?_
  refine am_iconst (v := 2) dM_isValid_4 (by decide) ?_
  refine kV_M_getBytes dM_isValid_5 (am_tw kw_828 rfl) (Nat.le_of_ble_eq_true rfl) ⟨Nat.le_of_ble_eq_true rfl, Nat.le_of_ble_eq_true rfl⟩ ⟨Nat.le_of_ble_eq_true rfl, Nat.le_of_ble_eq_true rfl⟩ ⟨Nat.le_of_ble_eq_true rfl, Nat.le_of_ble_eq_true rfl⟩ hlt h (fun r3 I1 J2 h => ?_)
  refine am_aload_n 0 dM_isValid_8 rfl rfl ?_
  refine kV_M_sumOfImage dM_isValid_9 (am_tw kw_803 rfl) (Nat.le_of_ble_eq_true rfl) ⟨Nat.le_of_ble_eq_true rfl, Nat.le_of_ble_eq_true rfl⟩ ⟨Nat.le_of_ble_eq_true rfl, Nat.le_of_ble_eq_true rfl⟩ ⟨Nat.le_of_ble_eq_true rfl, Nat.le_of_ble_eq_true rfl⟩ hlt h (fun r6 I4 J5 h => ?_)
  refine am_icmp_ne 19 dM_isValid_12 (by decide) (fun hc7 => ?_) (fun hc7 => ?_)
  · replace h := h.1 hc7
    refine am_iconst (v := 0) dM_isValid_19 (by decide) ?_
    exact am_zret dM_isValid_20 rfl (Nat.le_of_ble_eq_true rfl) (Nat.le_of_ble_eq_true rfl) (by decide) ⟨_, _, _, rfl, rfl, h⟩
  · replace h := h.2 hc7
    refine am_iconst (v := 1) dM_isValid_15 (by decide) ?_
    refine am_goto 20 dM_isValid_16 (by decide) ?_
    exact am_zret dM_isValid_20 rfl (Nat.le_of_ble_eq_true rfl) (Nat.le_of_ble_eq_true rfl) (by decide) ⟨_, _, _, rfl, rfl, h⟩
section
variable {l : Launch} {D : va_G} {aC : Nat → ClassId} {ad : Nat → Nat} {own : String} {cc : ByteArray} {nL : Nat} {ret : Option FieldType} {ini : Bool} {tb : List (Nat × Nat × Nat × Nat)} {G : State → (Nat → Prop) → Prop} {rm : Room} {mc ms k n pc idx : Nat} {L : List (Nat × Value)} {st rest : List Value} {I : am_MI} {J : am_MJ} {Q : Option Value → va_W → Prop} {X : String → va_W → Prop}
theorem kV_M_isValid {K : Int32 → am_MI → am_MJ → Prop} {X1 : String → am_MI → am_MJ → Prop} (hd : decode cc pc = .ok (.invokevirtual idx, 3)) (hlink : Cond.methodLink own idx yM_isValid ∈ am_TW) (hcat : (rest.map fun v => v.category).sum ≤ 8) (hR : 2 + 1 ≤ rm.frames ∧ 8 + (1 + 11) + 38 * 2 ≤ rm.locals) (hk : k + 1 ≤ rm.cells ∧ n + 6 ≤ rm.slots) (hm : k ≤ mc ∧ n ≤ ms) (hlt : l.stackTraces = false) (h : w_M_isValid I J K X1) (kk : ∀ (r : Int32) (I1 : am_MI) (J1 : am_MJ), K r I1 J1 → am l D aC own cc nL ret ini [] G rm mc ms k n (pc + 3) L (.int r :: rest) (am_w ad aC I1 J1) Q (am_lx ad aC X1)) : am l D aC own cc nL ret ini [] G rm mc ms k n pc L (.ref (ad 28) :: rest) (am_w ad aC I J) Q (am_lx ad aC X1) := by
  refine am_callV 28 6 (As := []) (N9 := 0) (t_M_isValid hlt h) hd rfl (am_w_at ad aC I J (by omega)) rfl hlink (am_tw kw_827 rfl) (am_tw kw_826 rfl) ks_65 (am_tw kw_7 rfl) (by decide +kernel) rfl hcat ⟨rfl, rfl⟩ hR hk (fun E ws1 hx => am_out (fun x hx => nomatch hx) (Nat.add_le_add_right hm.1 1) (Nat.add_le_add_right hm.2 6) hx) ?_
  intro v ws1 hq
  obtain ⟨r, I1, J1, rfl, rfl, hq⟩ := hq
  exact kk r I1 J1 hq
end
def w_M_length_25 (x1 : Int32) (xs0 : Int32) (I : am_MI) (J : am_MJ) (Q : Int32 → am_MI → am_MJ → Prop) (X : String → am_MI → am_MJ → Prop) : Prop :=
  (((am_ui I 28 0 xs0) 28 0) ≤ 0 → (vp_in x1 8 ∧ (Q ((am_ui I 28 0 xs0) 32 x1.toNatClampNeg) (am_ui I 28 0 xs0) J))) ∧ (¬ (((am_ui I 28 0 xs0) 28 0) ≤ 0) → (Q 0 (am_ui I 28 0 xs0) J))
set_option maxRecDepth 20000 in
theorem t_M_length_25 {l : Launch} {D : va_G} {aC : Nat → ClassId} {ad : Nat → Nat} (hlt : l.stackTraces = false) {x1 : Int32} {xs0 : Int32} {I : am_MI} {J : am_MJ} {Q} {X} (h : w_M_length_25 x1 xs0 I J Q X) : am l D aC "BubbleBoxModel" cM_length 2 (some .int) false [] am_G0 (am_rm 2) 0 0 0 0 25 [(0, .ref (ad 28)), (1, .int x1)] [.int xs0, .ref (ad 28)] (am_w ad aC I J) (am_li ad aC Q) (am_lx ad aC X) := by
  unfold w_M_length_25 at h
  refine po_M_code dM_length_25 (am_tw kw_659 rfl) ?_
  refine am_aload_n 0 dM_length_28 rfl rfl ?_
  refine go_M_code dM_length_29 (am_tw kw_659 rfl) ?_
  refine am_if_le 39 dM_length_32 (by decide) (fun hc9 => ?_) (fun hc9 => ?_)
  · replace h := h.1 hc9
    refine am_aload_n 0 dM_length_39 rfl rfl ?_
    refine go_M_length dM_length_40 (am_tw kw_669 rfl) ?_
    refine am_iload_n 1 dM_length_43 rfl rfl ?_
    obtain ⟨hi10, h⟩ := h
    refine ld_32 hi10 dM_length_44 ?_
    exact am_iret dM_length_45 rfl (Nat.le_of_ble_eq_true rfl) (Nat.le_of_ble_eq_true rfl) ⟨_, _, _, rfl, rfl, h⟩
  · replace h := h.2 hc9
    refine am_iconst (v := 0) dM_length_35 (by decide) ?_
    refine am_goto 45 dM_length_36 (by decide) ?_
    exact am_iret dM_length_45 rfl (Nat.le_of_ble_eq_true rfl) (Nat.le_of_ble_eq_true rfl) ⟨_, _, _, rfl, rfl, h⟩

def w_M_length (a0 : Int32) (I : am_MI) (J : am_MJ) (Q : Int32 → am_MI → am_MJ → Prop) (X : String → am_MI → am_MJ → Prop) : Prop :=
  w_M_isReady I J (fun (r3 : Int32) (I1 : am_MI) (J2 : am_MJ) => (¬ r3 = 0 → (w_M_isFile a0 I1 J2 (fun (r7 : Int32) (I5 : am_MI) (J6 : am_MJ) => (r7 = 0 → (w_M_length_25 a0 (2 : Int32) I5 J6 Q X)) ∧ (¬ (r7 = 0) → (w_M_length_25 a0 (0 : Int32) I5 J6 Q X))) X)) ∧ (r3 = 0 → (w_M_length_25 a0 (1 : Int32) I1 J2 Q X))) X
set_option maxRecDepth 20000 in
theorem t_M_length {l : Launch} {D : va_G} {aC : Nat → ClassId} {ad : Nat → Nat} (hlt : l.stackTraces = false) {a0 : Int32} {I : am_MI} {J : am_MJ} {Q} {X} (h : w_M_length a0 I J Q X) : am_c l D aC yM_length (.code yM_length cM_length 2 (some .int)) (am_rm 2) 0 0 [.ref (ad 28), .int a0] (am_w ad aC I J) (am_li ad aC Q) (am_lx ad aC X) := by
  unfold w_M_length at h
  refine am_of (ini := false) hlt (by decide +kernel) (Nat.le_of_ble_eq_true rfl) (fun h => nomatch h) ?_
  show am l D aC "BubbleBoxModel" cM_length 2 (some .int) false [] am_G0 (am_rm 2) 0 0 0 0 0 [(0, .ref (ad 28)), (1, .int a0)] [] (am_w ad aC I J) (am_li ad aC Q) (am_lx ad aC X)
  refine am_aload_n 0 dM_length_0 rfl rfl ?_
  refine am_aload_n 0 dM_length_1 rfl rfl ?_
  refine kV_M_isReady dM_length_2 (am_tw kw_836 rfl) (Nat.le_of_ble_eq_true rfl) ⟨Nat.le_of_ble_eq_true rfl, Nat.le_of_ble_eq_true rfl⟩ ⟨Nat.le_of_ble_eq_true rfl, Nat.le_of_ble_eq_true rfl⟩ ⟨Nat.le_of_ble_eq_true rfl, Nat.le_of_ble_eq_true rfl⟩ hlt h (fun r3 I1 J2 h => ?_)
  refine am_if_ne 12 dM_length_5 (by decide) (fun hc4 => ?_) (fun hc4 => ?_)
  · replace h := h.1 hc4
    refine am_aload_n 0 dM_length_12 rfl rfl ?_
    refine am_iload_n 1 dM_length_13 rfl rfl ?_
    refine kV_M_isFile dM_length_14 (am_tw kw_852 rfl) (Nat.le_of_ble_eq_true rfl) ⟨Nat.le_of_ble_eq_true rfl, Nat.le_of_ble_eq_true rfl⟩ ⟨Nat.le_of_ble_eq_true rfl, Nat.le_of_ble_eq_true rfl⟩ ⟨Nat.le_of_ble_eq_true rfl, Nat.le_of_ble_eq_true rfl⟩ hlt h (fun r7 I5 J6 h => ?_)
    refine am_if_eq 24 dM_length_17 (by decide) (fun hc8 => ?_) (fun hc8 => ?_)
    · replace h := h.1 hc8
      refine am_iconst (v := 2) dM_length_24 (by decide) ?_
      exact am_sub [0, 1] rfl (t_M_length_25 hlt h)
    · replace h := h.2 hc8
      refine am_iconst (v := 0) dM_length_20 (by decide) ?_
      refine am_goto 25 dM_length_21 (by decide) ?_
      exact am_sub [0, 1] rfl (t_M_length_25 hlt h)
  · replace h := h.2 hc4
    refine am_iconst (v := 1) dM_length_8 (by decide) ?_
    refine am_goto 25 dM_length_9 (by decide) ?_
    exact am_sub [0, 1] rfl (t_M_length_25 hlt h)
section
variable {l : Launch} {D : va_G} {aC : Nat → ClassId} {ad : Nat → Nat} {own : String} {cc : ByteArray} {nL : Nat} {ret : Option FieldType} {ini : Bool} {tb : List (Nat × Nat × Nat × Nat)} {G : State → (Nat → Prop) → Prop} {rm : Room} {mc ms k n pc idx : Nat} {L : List (Nat × Value)} {st rest : List Value} {I : am_MI} {J : am_MJ} {Q : Option Value → va_W → Prop} {X : String → va_W → Prop}
theorem kV_M_length {a0 : Int32} {K : Int32 → am_MI → am_MJ → Prop} {X1 : String → am_MI → am_MJ → Prop} (hd : decode cc pc = .ok (.invokevirtual idx, 3)) (hlink : Cond.methodLink own idx yM_length ∈ am_TW) (hcat : (rest.map fun v => v.category).sum ≤ 8) (hR : 2 + 1 ≤ rm.frames ∧ 8 + (2 + 11) + 38 * 2 ≤ rm.locals) (hk : k + 1 ≤ rm.cells ∧ n + 6 ≤ rm.slots) (hm : k ≤ mc ∧ n ≤ ms) (hlt : l.stackTraces = false) (h : w_M_length a0 I J K X1) (kk : ∀ (r : Int32) (I1 : am_MI) (J1 : am_MJ), K r I1 J1 → am l D aC own cc nL ret ini [] G rm mc ms k n (pc + 3) L (.int r :: rest) (am_w ad aC I1 J1) Q (am_lx ad aC X1)) : am l D aC own cc nL ret ini [] G rm mc ms k n pc L (.int a0 :: .ref (ad 28) :: rest) (am_w ad aC I J) Q (am_lx ad aC X1) := by
  refine am_callV 28 6 (As := [.int a0]) (N9 := 1) (t_M_length hlt h) hd rfl (am_w_at ad aC I J (by omega)) rfl hlink (am_tw kw_851 rfl) (am_tw kw_849 rfl) (am_tw kw_850 rfl) (am_tw kw_7 rfl) (by decide +kernel) rfl hcat ⟨rfl, rfl⟩ hR hk (fun E ws1 hx => am_out (fun x hx => nomatch hx) (Nat.add_le_add_right hm.1 1) (Nat.add_le_add_right hm.2 6) hx) ?_
  intro v ws1 hq
  obtain ⟨r, I1, J1, rfl, rfl, hq⟩ := hq
  exact kk r I1 J1 hq
end
def w_M_loadImage_2 (x1 : Int32) (x2 : Int32) (I : am_MI) (J : am_MJ) (Q : am_MI → am_MJ → Prop) (X : String → am_MI → am_MJ → Prop) : Prop :=
  ∀ P2 : Int32 → am_MI → am_MJ → Prop, (∀ (x2 : Int32) (I : am_MI) (J : am_MJ), (((20 : Int32) ≤ x2 → (Q I J)) ∧ (¬ ((20 : Int32) ≤ x2) → (vp_in (((20 : Int32) * x1) + x2) 101 ∧ (w_M_putBytes ((8 : Int32) * x2) (J 30 (((20 : Int32) * x1) + x2).toNatClampNeg) (8 : Int32) I J (fun (I3 : am_MI) (J4 : am_MJ) => P2 (x2 + 1) I3 J4) X)))) → P2 x2 I J) → P2 x2 I J
set_option maxRecDepth 20000 in
theorem t_M_loadImage_2 {l : Launch} {D : va_G} {aC : Nat → ClassId} {ad : Nat → Nat} (hlt : l.stackTraces = false) {x1 : Int32} {x2 : Int32} {I : am_MI} {J : am_MJ} {Q} {X} (h : w_M_loadImage_2 x1 x2 I J Q X) : am l D aC "BubbleBoxModel" cM_loadImage 3 none false [] am_G0 (am_rm 2) 0 0 0 0 2 [(0, .ref (ad 28)), (1, .int x1), (2, .int x2)] [] (am_w ad aC I J) (am_lv ad aC Q) (am_lx ad aC X) := by
  unfold w_M_loadImage_2 at h
  refine h (fun (x2 : Int32) (I : am_MI) (J : am_MJ) => am l D aC "BubbleBoxModel" cM_loadImage 3 none false [] am_G0 (am_rm 2) 0 0 0 0 2 [(0, .ref (ad 28)), (1, .int x1), (2, .int x2)] [] (am_w ad aC I J) (am_lv ad aC Q) (am_lx ad aC X)) (fun x2 I J h => ?_)
  refine am_iload_n 2 dM_loadImage_2 rfl rfl ?_
  refine am_bipush (v := 20) dM_loadImage_3 (by decide) ?_
  refine am_icmp_ge 35 dM_loadImage_5 (by decide) (fun hc1 => ?_) (fun hc1 => ?_)
  · replace h := h.1 hc1
    exact am_vret dM_loadImage_35 rfl (Nat.le_of_ble_eq_true rfl) (Nat.le_of_ble_eq_true rfl) ⟨_, _, rfl, rfl, h⟩
  · replace h := h.2 hc1
    refine am_aload_n 0 dM_loadImage_8 rfl rfl ?_
    refine am_bipush (v := 8) dM_loadImage_9 (by decide) ?_
    refine am_iload_n 2 dM_loadImage_11 rfl rfl ?_
    refine am_imul dM_loadImage_12 ?_
    refine am_aload_n 0 dM_loadImage_13 rfl rfl ?_
    refine go_M_data dM_loadImage_14 (am_tw kw_662 rfl) ?_
    refine am_bipush (v := 20) dM_loadImage_17 (by decide) ?_
    refine am_iload_n 1 dM_loadImage_19 rfl rfl ?_
    refine am_imul dM_loadImage_20 ?_
    refine am_iload_n 2 dM_loadImage_21 rfl rfl ?_
    refine am_iadd dM_loadImage_22 ?_
    obtain ⟨hi2, h⟩ := h
    refine ld_30 hi2 dM_loadImage_23 ?_
    refine am_bipush (v := 8) dM_loadImage_24 (by decide) ?_
    refine kV_M_putBytes dM_loadImage_26 (am_tw kw_798 rfl) (Nat.le_of_ble_eq_true rfl) ⟨Nat.le_of_ble_eq_true rfl, Nat.le_of_ble_eq_true rfl⟩ ⟨Nat.le_of_ble_eq_true rfl, Nat.le_of_ble_eq_true rfl⟩ ⟨Nat.le_of_ble_eq_true rfl, Nat.le_of_ble_eq_true rfl⟩ hlt h (fun I3 J4 h => ?_)
    refine am_iinc (j := 2) (v := x2 + 1) (L2 := [(2, .int (x2 + 1)), (0, .ref (ad 28)), (1, .int x1)]) dM_loadImage_29 rfl (congrArg (x2 + ·) (by decide : Int32.ofInt (1) = 1)) (Nat.le_of_ble_eq_true rfl) rfl ?_
    refine am_goto 2 dM_loadImage_32 (by decide) ?_
    exact am_sub [1, 2, 0] rfl h

def w_M_loadImage (a0 : Int32) (I : am_MI) (J : am_MJ) (Q : am_MI → am_MJ → Prop) (X : String → am_MI → am_MJ → Prop) : Prop :=
  w_M_loadImage_2 a0 (0 : Int32) I J Q X
set_option maxRecDepth 20000 in
theorem t_M_loadImage {l : Launch} {D : va_G} {aC : Nat → ClassId} {ad : Nat → Nat} (hlt : l.stackTraces = false) {a0 : Int32} {I : am_MI} {J : am_MJ} {Q} {X} (h : w_M_loadImage a0 I J Q X) : am_c l D aC yM_loadImage (.code yM_loadImage cM_loadImage 3 none) (am_rm 2) 0 0 [.ref (ad 28), .int a0] (am_w ad aC I J) (am_lv ad aC Q) (am_lx ad aC X) := by
  unfold w_M_loadImage at h
  refine am_of (ini := false) hlt (by decide +kernel) (Nat.le_of_ble_eq_true rfl) (fun h => nomatch h) ?_
  show am l D aC "BubbleBoxModel" cM_loadImage 3 none false [] am_G0 (am_rm 2) 0 0 0 0 0 [(0, .ref (ad 28)), (1, .int a0)] [] (am_w ad aC I J) (am_lv ad aC Q) (am_lx ad aC X)
  refine am_iconst (v := 0) dM_loadImage_0 (by decide) ?_
  refine am_istore_n (L2 := [(2, .int 0), (0, .ref (ad 28)), (1, .int a0)]) dM_loadImage_1 rfl (Nat.le_of_ble_eq_true rfl) rfl ?_
  exact am_sub [1, 2, 0] rfl (t_M_loadImage_2 hlt h)
section
variable {l : Launch} {D : va_G} {aC : Nat → ClassId} {ad : Nat → Nat} {own : String} {cc : ByteArray} {nL : Nat} {ret : Option FieldType} {ini : Bool} {tb : List (Nat × Nat × Nat × Nat)} {G : State → (Nat → Prop) → Prop} {rm : Room} {mc ms k n pc idx : Nat} {L : List (Nat × Value)} {st rest : List Value} {I : am_MI} {J : am_MJ} {Q : Option Value → va_W → Prop} {X : String → va_W → Prop}
theorem kV_M_loadImage {a0 : Int32} {K : am_MI → am_MJ → Prop} {X1 : String → am_MI → am_MJ → Prop} (hd : decode cc pc = .ok (.invokevirtual idx, 3)) (hlink : Cond.methodLink own idx yM_loadImage ∈ am_TW) (hcat : (rest.map fun v => v.category).sum ≤ 8) (hR : 2 + 1 ≤ rm.frames ∧ 8 + (3 + 11) + 38 * 2 ≤ rm.locals) (hk : k + 1 ≤ rm.cells ∧ n + 6 ≤ rm.slots) (hm : k ≤ mc ∧ n ≤ ms) (hlt : l.stackTraces = false) (h : w_M_loadImage a0 I J K X1) (kk : ∀ (I1 : am_MI) (J1 : am_MJ), K I1 J1 → am l D aC own cc nL ret ini [] G rm mc ms k n (pc + 3) L rest (am_w ad aC I1 J1) Q (am_lx ad aC X1)) : am l D aC own cc nL ret ini [] G rm mc ms k n pc L (.int a0 :: .ref (ad 28) :: rest) (am_w ad aC I J) Q (am_lx ad aC X1) := by
  refine am_callV 28 6 (As := [.int a0]) (N9 := 1) (t_M_loadImage hlt h) hd rfl (am_w_at ad aC I J (by omega)) rfl hlink (am_tw kw_823 rfl) (am_tw kw_822 rfl) ks_64 (am_tw kw_7 rfl) (by decide +kernel) rfl hcat ⟨rfl, rfl⟩ hR hk (fun E ws1 hx => am_out (fun x hx => nomatch hx) (Nat.add_le_add_right hm.1 1) (Nat.add_le_add_right hm.2 6) hx) ?_
  intro v ws1 hq
  obtain ⟨I1, J1, rfl, rfl, hq⟩ := hq
  exact kk I1 J1 hq
end
def w_M_makeImage_161 (x2 : Int32) (I : am_MI) (J : am_MJ) (Q : am_MI → am_MJ → Prop) (X : String → am_MI → am_MJ → Prop) (P2 : Int32 → am_MI → am_MJ → Prop) (P23 : Int32 → am_MI → am_MJ → Prop) : Prop :=
  ∀ P161 : Int32 → am_MI → am_MJ → Prop, (∀ (x2 : Int32) (I : am_MI) (J : am_MJ), (((101 : Int32) ≤ x2 → (w_M_sumOfImage I J (fun (r9 : Int32) (I7 : am_MI) (J8 : am_MJ) => w_M_putBytes (158 : Int32) r9.toInt64 (2 : Int32) I7 J8 (fun (I10 : am_MI) (J11 : am_MJ) => Q I10 J11) X) X)) ∧ (¬ ((101 : Int32) ≤ x2) → (vp_in x2 101 ∧ (w_M_putBytes ((57 : Int32) + x2) ((I 39 x2.toNatClampNeg).toInt64) (1 : Int32) I J (fun (I14 : am_MI) (J15 : am_MJ) => P161 (x2 + 1) I14 J15) X)))) → P161 x2 I J) → P161 x2 I J
set_option maxRecDepth 20000 in
theorem t_M_makeImage_161 {l : Launch} {D : va_G} {aC : Nat → ClassId} {ad : Nat → Nat} (hlt : l.stackTraces = false) {x2 : Int32} {I : am_MI} {J : am_MJ} {Q} {X} {x1 : Int32} {P2 : Int32 → am_MI → am_MJ → Prop} {P23 : Int32 → am_MI → am_MJ → Prop} (uP2 : ∀ (x2 : Int32) (I : am_MI) (J : am_MJ), P2 x2 I J → am l D aC "BubbleBoxModel" cM_makeImage 4 none false [] am_G0 (am_rm 2) 0 0 0 0 2 [(0, .ref (ad 28)), (1, .int x1), (2, .int x2)] [] (am_w ad aC I J) (am_lv ad aC Q) (am_lx ad aC X)) (uP23 : ∀ (x2 : Int32) (I : am_MI) (J : am_MJ), P23 x2 I J → am l D aC "BubbleBoxModel" cM_makeImage 4 none false [] am_G0 (am_rm 2) 0 0 0 0 23 [(0, .ref (ad 28)), (1, .int x1), (2, .int x2)] [] (am_w ad aC I J) (am_lv ad aC Q) (am_lx ad aC X)) (h : w_M_makeImage_161 x2 I J Q X P2 P23) : am l D aC "BubbleBoxModel" cM_makeImage 4 none false [] am_G0 (am_rm 2) 0 0 0 0 161 [(0, .ref (ad 28)), (2, .int x2)] [] (am_w ad aC I J) (am_lv ad aC Q) (am_lx ad aC X) := by
  unfold w_M_makeImage_161 at h
  refine h (fun (x2 : Int32) (I : am_MI) (J : am_MJ) => am l D aC "BubbleBoxModel" cM_makeImage 4 none false [] am_G0 (am_rm 2) 0 0 0 0 161 [(0, .ref (ad 28)), (2, .int x2)] [] (am_w ad aC I J) (am_lv ad aC Q) (am_lx ad aC X)) (fun x2 I J h => ?_)
  refine am_iload_n 1 dM_makeImage_161 rfl rfl ?_
  refine am_bipush (v := 101) dM_makeImage_162 (by decide) ?_
  refine am_icmp_ge 189 dM_makeImage_164 (by decide) (fun hc6 => ?_) (fun hc6 => ?_)
  · replace h := h.1 hc6
    refine am_aload_n 0 dM_makeImage_189 rfl rfl ?_
    refine am_sipush (v := 158) dM_makeImage_190 (by decide) ?_
    refine am_aload_n 0 dM_makeImage_193 rfl rfl ?_
    refine kV_M_sumOfImage dM_makeImage_194 (am_tw kw_803 rfl) (Nat.le_of_ble_eq_true rfl) ⟨Nat.le_of_ble_eq_true rfl, Nat.le_of_ble_eq_true rfl⟩ ⟨Nat.le_of_ble_eq_true rfl, Nat.le_of_ble_eq_true rfl⟩ ⟨Nat.le_of_ble_eq_true rfl, Nat.le_of_ble_eq_true rfl⟩ hlt h (fun r9 I7 J8 h => ?_)
    refine am_i2l dM_makeImage_197 ?_
    refine am_iconst (v := 2) dM_makeImage_198 (by decide) ?_
    refine kV_M_putBytes dM_makeImage_199 (am_tw kw_798 rfl) (Nat.le_of_ble_eq_true rfl) ⟨Nat.le_of_ble_eq_true rfl, Nat.le_of_ble_eq_true rfl⟩ ⟨Nat.le_of_ble_eq_true rfl, Nat.le_of_ble_eq_true rfl⟩ ⟨Nat.le_of_ble_eq_true rfl, Nat.le_of_ble_eq_true rfl⟩ hlt h (fun I10 J11 h => ?_)
    exact am_vret dM_makeImage_202 rfl (Nat.le_of_ble_eq_true rfl) (Nat.le_of_ble_eq_true rfl) ⟨_, _, rfl, rfl, h⟩
  · replace h := h.2 hc6
    refine am_aload_n 0 dM_makeImage_167 rfl rfl ?_
    refine am_bipush (v := 57) dM_makeImage_168 (by decide) ?_
    refine am_iload_n 1 dM_makeImage_170 rfl rfl ?_
    refine am_iadd dM_makeImage_171 ?_
    refine am_aload_n 0 dM_makeImage_172 rfl rfl ?_
    refine go_M_behind dM_makeImage_173 (am_tw kw_678 rfl) ?_
    refine am_iload_n 1 dM_makeImage_176 rfl rfl ?_
    obtain ⟨hi13, h⟩ := h
    refine ld_39 hi13 dM_makeImage_177 ?_
    refine am_i2l dM_makeImage_178 ?_
    refine am_iconst (v := 1) dM_makeImage_179 (by decide) ?_
    refine kV_M_putBytes dM_makeImage_180 (am_tw kw_798 rfl) (Nat.le_of_ble_eq_true rfl) ⟨Nat.le_of_ble_eq_true rfl, Nat.le_of_ble_eq_true rfl⟩ ⟨Nat.le_of_ble_eq_true rfl, Nat.le_of_ble_eq_true rfl⟩ ⟨Nat.le_of_ble_eq_true rfl, Nat.le_of_ble_eq_true rfl⟩ hlt h (fun I14 J15 h => ?_)
    refine am_iinc (j := 1) (v := x2 + 1) (L2 := [(2, .int (x2 + 1)), (0, .ref (ad 28))]) dM_makeImage_183 rfl (congrArg (x2 + ·) (by decide : Int32.ofInt (1) = 1)) (Nat.le_of_ble_eq_true rfl) rfl ?_
    refine am_goto 161 dM_makeImage_186 (by decide) ?_
    exact am_sub [1, 0] rfl h

def w_M_makeImage_122 (x1 : Int32) (x2 : Int32) (xs0 : Int64) (xs1 : Int32) (I : am_MI) (J : am_MJ) (Q : am_MI → am_MJ → Prop) (X : String → am_MI → am_MJ → Prop) (P2 : Int32 → am_MI → am_MJ → Prop) (P23 : Int32 → am_MI → am_MJ → Prop) (P31 : Int32 → am_MI → am_MJ → Prop) : Prop :=
  w_M_putBytes xs1 xs0 (1 : Int32) I J (fun (I29 : am_MI) (J30 : am_MJ) => vp_in x2 8 ∧ (w_M_putBytes ((6 : Int32) + ((7 : Int32) * x2)) ((I29 32 x2.toNatClampNeg).toInt64) (2 : Int32) I29 J30 (fun (I33 : am_MI) (J34 : am_MJ) => P23 (x2 + 1) I33 J34) X)) X
set_option maxRecDepth 20000 in
theorem t_M_makeImage_122 {l : Launch} {D : va_G} {aC : Nat → ClassId} {ad : Nat → Nat} (hlt : l.stackTraces = false) {x1 : Int32} {x2 : Int32} {xs0 : Int64} {xs1 : Int32} {I : am_MI} {J : am_MJ} {Q} {X} {P2 : Int32 → am_MI → am_MJ → Prop} {P23 : Int32 → am_MI → am_MJ → Prop} {P31 : Int32 → am_MI → am_MJ → Prop} (uP2 : ∀ (x2 : Int32) (I : am_MI) (J : am_MJ), P2 x2 I J → am l D aC "BubbleBoxModel" cM_makeImage 4 none false [] am_G0 (am_rm 2) 0 0 0 0 2 [(0, .ref (ad 28)), (1, .int x1), (2, .int x2)] [] (am_w ad aC I J) (am_lv ad aC Q) (am_lx ad aC X)) (uP23 : ∀ (x2 : Int32) (I : am_MI) (J : am_MJ), P23 x2 I J → am l D aC "BubbleBoxModel" cM_makeImage 4 none false [] am_G0 (am_rm 2) 0 0 0 0 23 [(0, .ref (ad 28)), (1, .int x1), (2, .int x2)] [] (am_w ad aC I J) (am_lv ad aC Q) (am_lx ad aC X)) (uP31 : ∀ (x3 : Int32) (I : am_MI) (J : am_MJ), P31 x3 I J → am l D aC "BubbleBoxModel" cM_makeImage 4 none false [] am_G0 (am_rm 2) 0 0 0 0 31 [(0, .ref (ad 28)), (1, .int x1), (2, .int x2), (3, .int x3)] [] (am_w ad aC I J) (am_lv ad aC Q) (am_lx ad aC X)) (h : w_M_makeImage_122 x1 x2 xs0 xs1 I J Q X P2 P23 P31) : am l D aC "BubbleBoxModel" cM_makeImage 4 none false [] am_G0 (am_rm 2) 0 0 0 0 122 [(0, .ref (ad 28)), (1, .int x1), (2, .int x2)] [.long xs0, .int xs1, .ref (ad 28)] (am_w ad aC I J) (am_lv ad aC Q) (am_lx ad aC X) := by
  unfold w_M_makeImage_122 at h
  refine am_iconst (v := 1) dM_makeImage_122 (by decide) ?_
  refine kV_M_putBytes dM_makeImage_123 (am_tw kw_798 rfl) (Nat.le_of_ble_eq_true rfl) ⟨Nat.le_of_ble_eq_true rfl, Nat.le_of_ble_eq_true rfl⟩ ⟨Nat.le_of_ble_eq_true rfl, Nat.le_of_ble_eq_true rfl⟩ ⟨Nat.le_of_ble_eq_true rfl, Nat.le_of_ble_eq_true rfl⟩ hlt h (fun I29 J30 h => ?_)
  refine am_aload_n 0 dM_makeImage_126 rfl rfl ?_
  refine am_bipush (v := 6) dM_makeImage_127 (by decide) ?_
  refine am_bipush (v := 7) dM_makeImage_129 (by decide) ?_
  refine am_iload_n 2 dM_makeImage_131 rfl rfl ?_
  refine am_imul dM_makeImage_132 ?_
  refine am_iadd dM_makeImage_133 ?_
  refine am_aload_n 0 dM_makeImage_134 rfl rfl ?_
  refine go_M_length dM_makeImage_135 (am_tw kw_669 rfl) ?_
  refine am_iload_n 2 dM_makeImage_138 rfl rfl ?_
  obtain ⟨hi32, h⟩ := h
  refine ld_32 hi32 dM_makeImage_139 ?_
  refine am_i2l dM_makeImage_140 ?_
  refine am_iconst (v := 2) dM_makeImage_141 (by decide) ?_
  refine kV_M_putBytes dM_makeImage_142 (am_tw kw_798 rfl) (Nat.le_of_ble_eq_true rfl) ⟨Nat.le_of_ble_eq_true rfl, Nat.le_of_ble_eq_true rfl⟩ ⟨Nat.le_of_ble_eq_true rfl, Nat.le_of_ble_eq_true rfl⟩ ⟨Nat.le_of_ble_eq_true rfl, Nat.le_of_ble_eq_true rfl⟩ hlt h (fun I33 J34 h => ?_)
  refine am_iinc (j := 2) (v := x2 + 1) (L2 := [(2, .int (x2 + 1)), (0, .ref (ad 28)), (1, .int x1)]) dM_makeImage_145 rfl (congrArg (x2 + ·) (by decide : Int32.ofInt (1) = 1)) (Nat.le_of_ble_eq_true rfl) rfl ?_
  refine am_goto 23 dM_makeImage_148 (by decide) ?_
  exact am_sub [1, 2, 0] rfl (uP23 _ _ _ h)

def w_M_makeImage_31 (x1 : Int32) (x2 : Int32) (x3 : Int32) (I : am_MI) (J : am_MJ) (Q : am_MI → am_MJ → Prop) (X : String → am_MI → am_MJ → Prop) (P2 : Int32 → am_MI → am_MJ → Prop) (P23 : Int32 → am_MI → am_MJ → Prop) : Prop :=
  ∀ P31 : Int32 → am_MI → am_MJ → Prop, (∀ (x3 : Int32) (I : am_MI) (J : am_MJ), (w_M_pages x2 I J (fun (r19 : Int32) (I17 : am_MI) (J18 : am_MJ) => (r19 ≤ x3 → (vp_in x2 8 ∧ (w_M_putBytes ((1 : Int32) + ((7 : Int32) * x2)) ((I17 31 x2.toNatClampNeg).toInt64) (4 : Int32) I17 J18 (fun (I22 : am_MI) (J23 : am_MJ) => w_M_pages x2 I22 J23 (fun (r27 : Int32) (I25 : am_MI) (J26 : am_MJ) => (r27 ≤ 0 → (w_M_makeImage_122 x1 x2 (0 : Int64) ((5 : Int32) + ((7 : Int32) * x2)) I25 J26 Q X P2 P23 P31)) ∧ (¬ (r27 ≤ 0) → (vp_in ((64 : Int32) * x2) 512 ∧ (w_M_makeImage_122 x1 x2 ((I25 33 ((64 : Int32) * x2).toNatClampNeg).toInt64) ((5 : Int32) + ((7 : Int32) * x2)) I25 J26 Q X P2 P23 P31)))) X) X))) ∧ (¬ (r19 ≤ x3) → (vp_in ((((64 : Int32) * x2) + x3) - (1 : Int32)) 512 ∧ (vp_in (((64 : Int32) * x2) + x3) 512 ∧ (vp_in (I17 33 ((((64 : Int32) * x2) + x3) - (1 : Int32)).toNatClampNeg) 101 ∧ (P31 (x3 + 1) (am_ui I17 39 (I17 33 ((((64 : Int32) * x2) + x3) - (1 : Int32)).toNatClampNeg).toNatClampNeg (I17 33 (((64 : Int32) * x2) + x3).toNatClampNeg)) J18)))))) X) → P31 x3 I J) → P31 x3 I J
set_option maxRecDepth 20000 in
theorem t_M_makeImage_31 {l : Launch} {D : va_G} {aC : Nat → ClassId} {ad : Nat → Nat} (hlt : l.stackTraces = false) {x1 : Int32} {x2 : Int32} {x3 : Int32} {I : am_MI} {J : am_MJ} {Q} {X} {P2 : Int32 → am_MI → am_MJ → Prop} {P23 : Int32 → am_MI → am_MJ → Prop} (uP2 : ∀ (x2 : Int32) (I : am_MI) (J : am_MJ), P2 x2 I J → am l D aC "BubbleBoxModel" cM_makeImage 4 none false [] am_G0 (am_rm 2) 0 0 0 0 2 [(0, .ref (ad 28)), (1, .int x1), (2, .int x2)] [] (am_w ad aC I J) (am_lv ad aC Q) (am_lx ad aC X)) (uP23 : ∀ (x2 : Int32) (I : am_MI) (J : am_MJ), P23 x2 I J → am l D aC "BubbleBoxModel" cM_makeImage 4 none false [] am_G0 (am_rm 2) 0 0 0 0 23 [(0, .ref (ad 28)), (1, .int x1), (2, .int x2)] [] (am_w ad aC I J) (am_lv ad aC Q) (am_lx ad aC X)) (h : w_M_makeImage_31 x1 x2 x3 I J Q X P2 P23) : am l D aC "BubbleBoxModel" cM_makeImage 4 none false [] am_G0 (am_rm 2) 0 0 0 0 31 [(0, .ref (ad 28)), (1, .int x1), (2, .int x2), (3, .int x3)] [] (am_w ad aC I J) (am_lv ad aC Q) (am_lx ad aC X) := by
  unfold w_M_makeImage_31 at h
  refine h (fun (x3 : Int32) (I : am_MI) (J : am_MJ) => am l D aC "BubbleBoxModel" cM_makeImage 4 none false [] am_G0 (am_rm 2) 0 0 0 0 31 [(0, .ref (ad 28)), (1, .int x1), (2, .int x2), (3, .int x3)] [] (am_w ad aC I J) (am_lv ad aC Q) (am_lx ad aC X)) (fun x3 I J h => ?_)
  refine am_iload_n 3 dM_makeImage_31 rfl rfl ?_
  refine am_aload_n 0 dM_makeImage_32 rfl rfl ?_
  refine am_iload_n 2 dM_makeImage_33 rfl rfl ?_
  refine kV_M_pages dM_makeImage_34 (am_tw kw_794 rfl) (Nat.le_of_ble_eq_true rfl) ⟨Nat.le_of_ble_eq_true rfl, Nat.le_of_ble_eq_true rfl⟩ ⟨Nat.le_of_ble_eq_true rfl, Nat.le_of_ble_eq_true rfl⟩ ⟨Nat.le_of_ble_eq_true rfl, Nat.le_of_ble_eq_true rfl⟩ hlt h (fun r19 I17 J18 h => ?_)
  refine am_icmp_ge 75 dM_makeImage_37 (by decide) (fun hc20 => ?_) (fun hc20 => ?_)
  · replace h := h.1 hc20
    refine am_aload_n 0 dM_makeImage_75 rfl rfl ?_
    refine am_iconst (v := 1) dM_makeImage_76 (by decide) ?_
    refine am_bipush (v := 7) dM_makeImage_77 (by decide) ?_
    refine am_iload_n 2 dM_makeImage_79 rfl rfl ?_
    refine am_imul dM_makeImage_80 ?_
    refine am_iadd dM_makeImage_81 ?_
    refine am_aload_n 0 dM_makeImage_82 rfl rfl ?_
    refine go_M_name dM_makeImage_83 (am_tw kw_668 rfl) ?_
    refine am_iload_n 2 dM_makeImage_86 rfl rfl ?_
    obtain ⟨hi21, h⟩ := h
    refine ld_31 hi21 dM_makeImage_87 ?_
    refine am_i2l dM_makeImage_88 ?_
    refine am_iconst (v := 4) dM_makeImage_89 (by decide) ?_
    refine kV_M_putBytes dM_makeImage_90 (am_tw kw_798 rfl) (Nat.le_of_ble_eq_true rfl) ⟨Nat.le_of_ble_eq_true rfl, Nat.le_of_ble_eq_true rfl⟩ ⟨Nat.le_of_ble_eq_true rfl, Nat.le_of_ble_eq_true rfl⟩ ⟨Nat.le_of_ble_eq_true rfl, Nat.le_of_ble_eq_true rfl⟩ hlt h (fun I22 J23 h => ?_)
    refine am_aload_n 0 dM_makeImage_93 rfl rfl ?_
    refine am_iconst (v := 5) dM_makeImage_94 (by decide) ?_
    refine am_bipush (v := 7) dM_makeImage_95 (by decide) ?_
    refine am_iload_n 2 dM_makeImage_97 rfl rfl ?_
    refine am_imul dM_makeImage_98 ?_
    refine am_iadd dM_makeImage_99 ?_
    refine am_aload_n 0 dM_makeImage_100 rfl rfl ?_
    refine am_iload_n 2 dM_makeImage_101 rfl rfl ?_
    refine kV_M_pages dM_makeImage_102 (am_tw kw_794 rfl) (Nat.le_of_ble_eq_true rfl) ⟨Nat.le_of_ble_eq_true rfl, Nat.le_of_ble_eq_true rfl⟩ ⟨Nat.le_of_ble_eq_true rfl, Nat.le_of_ble_eq_true rfl⟩ ⟨Nat.le_of_ble_eq_true rfl, Nat.le_of_ble_eq_true rfl⟩ hlt h (fun r27 I25 J26 h => ?_)
    refine am_if_le 121 dM_makeImage_105 (by decide) (fun hc28 => ?_) (fun hc28 => ?_)
    · replace h := h.1 hc28
      refine am_lconst (v := 0) dM_makeImage_121 (by decide) ?_
      exact am_sub [0, 1, 2] rfl (t_M_makeImage_122 hlt uP2 uP23 (fun _ _ _ h => h) h)
    · replace h := h.2 hc28
      refine am_aload_n 0 dM_makeImage_108 rfl rfl ?_
      refine go_M_chain dM_makeImage_109 (am_tw kw_670 rfl) ?_
      refine am_bipush (v := 64) dM_makeImage_112 (by decide) ?_
      refine am_iload_n 2 dM_makeImage_114 rfl rfl ?_
      refine am_imul dM_makeImage_115 ?_
      obtain ⟨hi36, h⟩ := h
      refine ld_33 hi36 dM_makeImage_116 ?_
      refine am_i2l dM_makeImage_117 ?_
      refine am_goto 122 dM_makeImage_118 (by decide) ?_
      exact am_sub [0, 1, 2] rfl (t_M_makeImage_122 hlt uP2 uP23 (fun _ _ _ h => h) h)
  · replace h := h.2 hc20
    refine am_aload_n 0 dM_makeImage_40 rfl rfl ?_
    refine go_M_behind dM_makeImage_41 (am_tw kw_678 rfl) ?_
    refine am_aload_n 0 dM_makeImage_44 rfl rfl ?_
    refine go_M_chain dM_makeImage_45 (am_tw kw_670 rfl) ?_
    refine am_bipush (v := 64) dM_makeImage_48 (by decide) ?_
    refine am_iload_n 2 dM_makeImage_50 rfl rfl ?_
    refine am_imul dM_makeImage_51 ?_
    refine am_iload_n 3 dM_makeImage_52 rfl rfl ?_
    refine am_iadd dM_makeImage_53 ?_
    refine am_iconst (v := 1) dM_makeImage_54 (by decide) ?_
    refine am_isub dM_makeImage_55 ?_
    obtain ⟨hi37, h⟩ := h
    refine ld_33 hi37 dM_makeImage_56 ?_
    refine am_aload_n 0 dM_makeImage_57 rfl rfl ?_
    refine go_M_chain dM_makeImage_58 (am_tw kw_670 rfl) ?_
    refine am_bipush (v := 64) dM_makeImage_61 (by decide) ?_
    refine am_iload_n 2 dM_makeImage_63 rfl rfl ?_
    refine am_imul dM_makeImage_64 ?_
    refine am_iload_n 3 dM_makeImage_65 rfl rfl ?_
    refine am_iadd dM_makeImage_66 ?_
    obtain ⟨hi38, h⟩ := h
    refine ld_33 hi38 dM_makeImage_67 ?_
    obtain ⟨hi39, h⟩ := h
    refine st_39 hi39 dM_makeImage_68 ?_
    refine am_iinc (j := 3) (v := x3 + 1) (L2 := [(3, .int (x3 + 1)), (0, .ref (ad 28)), (1, .int x1), (2, .int x2)]) dM_makeImage_69 rfl (congrArg (x3 + ·) (by decide : Int32.ofInt (1) = 1)) (Nat.le_of_ble_eq_true rfl) rfl ?_
    refine am_goto 31 dM_makeImage_72 (by decide) ?_
    exact am_sub [1, 2, 3, 0] rfl h

def w_M_makeImage_23 (x1 : Int32) (x2 : Int32) (I : am_MI) (J : am_MJ) (Q : am_MI → am_MJ → Prop) (X : String → am_MI → am_MJ → Prop) (P2 : Int32 → am_MI → am_MJ → Prop) : Prop :=
  ∀ P23 : Int32 → am_MI → am_MJ → Prop, (∀ (x2 : Int32) (I : am_MI) (J : am_MJ), (((8 : Int32) ≤ x2 → (w_M_putBytes (0 : Int32) x1.toInt64 (1 : Int32) I J (fun (I3 : am_MI) (J4 : am_MJ) => w_M_makeImage_161 (0 : Int32) I3 J4 Q X P2 P23) X)) ∧ (¬ ((8 : Int32) ≤ x2) → (w_M_makeImage_31 x1 x2 (1 : Int32) I J Q X P2 P23))) → P23 x2 I J) → P23 x2 I J
set_option maxRecDepth 20000 in
theorem t_M_makeImage_23 {l : Launch} {D : va_G} {aC : Nat → ClassId} {ad : Nat → Nat} (hlt : l.stackTraces = false) {x1 : Int32} {x2 : Int32} {I : am_MI} {J : am_MJ} {Q} {X} {P2 : Int32 → am_MI → am_MJ → Prop} (uP2 : ∀ (x2 : Int32) (I : am_MI) (J : am_MJ), P2 x2 I J → am l D aC "BubbleBoxModel" cM_makeImage 4 none false [] am_G0 (am_rm 2) 0 0 0 0 2 [(0, .ref (ad 28)), (1, .int x1), (2, .int x2)] [] (am_w ad aC I J) (am_lv ad aC Q) (am_lx ad aC X)) (h : w_M_makeImage_23 x1 x2 I J Q X P2) : am l D aC "BubbleBoxModel" cM_makeImage 4 none false [] am_G0 (am_rm 2) 0 0 0 0 23 [(0, .ref (ad 28)), (1, .int x1), (2, .int x2)] [] (am_w ad aC I J) (am_lv ad aC Q) (am_lx ad aC X) := by
  unfold w_M_makeImage_23 at h
  refine h (fun (x2 : Int32) (I : am_MI) (J : am_MJ) => am l D aC "BubbleBoxModel" cM_makeImage 4 none false [] am_G0 (am_rm 2) 0 0 0 0 23 [(0, .ref (ad 28)), (1, .int x1), (2, .int x2)] [] (am_w ad aC I J) (am_lv ad aC Q) (am_lx ad aC X)) (fun x2 I J h => ?_)
  refine am_iload_n 2 dM_makeImage_23 rfl rfl ?_
  refine am_bipush (v := 8) dM_makeImage_24 (by decide) ?_
  refine am_icmp_ge 151 dM_makeImage_26 (by decide) (fun hc2 => ?_) (fun hc2 => ?_)
  · replace h := h.1 hc2
    refine am_aload_n 0 dM_makeImage_151 rfl rfl ?_
    refine am_iconst (v := 0) dM_makeImage_152 (by decide) ?_
    refine am_iload_n 1 dM_makeImage_153 rfl rfl ?_
    refine am_i2l dM_makeImage_154 ?_
    refine am_iconst (v := 1) dM_makeImage_155 (by decide) ?_
    refine kV_M_putBytes dM_makeImage_156 (am_tw kw_798 rfl) (Nat.le_of_ble_eq_true rfl) ⟨Nat.le_of_ble_eq_true rfl, Nat.le_of_ble_eq_true rfl⟩ ⟨Nat.le_of_ble_eq_true rfl, Nat.le_of_ble_eq_true rfl⟩ ⟨Nat.le_of_ble_eq_true rfl, Nat.le_of_ble_eq_true rfl⟩ hlt h (fun I3 J4 h => ?_)
    refine am_iconst (v := 0) dM_makeImage_159 (by decide) ?_
    refine am_istore_n (L2 := [(2, .int 0), (0, .ref (ad 28)), (1, .int x1)]) dM_makeImage_160 rfl (Nat.le_of_ble_eq_true rfl) rfl ?_
    exact am_sub [1, 0] rfl (t_M_makeImage_161 hlt uP2 (fun _ _ _ h => h) h)
  · replace h := h.2 hc2
    refine am_iconst (v := 1) dM_makeImage_29 (by decide) ?_
    refine am_istore_n (L2 := [(3, .int 1), (0, .ref (ad 28)), (1, .int x1), (2, .int x2)]) dM_makeImage_30 rfl (Nat.le_of_ble_eq_true rfl) rfl ?_
    exact am_sub [1, 2, 3, 0] rfl (t_M_makeImage_31 hlt uP2 (fun _ _ _ h => h) h)

def w_M_makeImage_2 (x1 : Int32) (x2 : Int32) (I : am_MI) (J : am_MJ) (Q : am_MI → am_MJ → Prop) (X : String → am_MI → am_MJ → Prop) : Prop :=
  ∀ P2 : Int32 → am_MI → am_MJ → Prop, (∀ (x2 : Int32) (I : am_MI) (J : am_MJ), (((101 : Int32) ≤ x2 → (w_M_makeImage_23 x1 (0 : Int32) I J Q X P2)) ∧ (¬ ((101 : Int32) ≤ x2) → (vp_in x2 101 ∧ (P2 (x2 + 1) (am_ui I 39 x2.toNatClampNeg (0 : Int32)) J)))) → P2 x2 I J) → P2 x2 I J
set_option maxRecDepth 20000 in
theorem t_M_makeImage_2 {l : Launch} {D : va_G} {aC : Nat → ClassId} {ad : Nat → Nat} (hlt : l.stackTraces = false) {x1 : Int32} {x2 : Int32} {I : am_MI} {J : am_MJ} {Q} {X} (h : w_M_makeImage_2 x1 x2 I J Q X) : am l D aC "BubbleBoxModel" cM_makeImage 4 none false [] am_G0 (am_rm 2) 0 0 0 0 2 [(0, .ref (ad 28)), (1, .int x1), (2, .int x2)] [] (am_w ad aC I J) (am_lv ad aC Q) (am_lx ad aC X) := by
  unfold w_M_makeImage_2 at h
  refine h (fun (x2 : Int32) (I : am_MI) (J : am_MJ) => am l D aC "BubbleBoxModel" cM_makeImage 4 none false [] am_G0 (am_rm 2) 0 0 0 0 2 [(0, .ref (ad 28)), (1, .int x1), (2, .int x2)] [] (am_w ad aC I J) (am_lv ad aC Q) (am_lx ad aC X)) (fun x2 I J h => ?_)
  refine am_iload_n 2 dM_makeImage_2 rfl rfl ?_
  refine am_bipush (v := 101) dM_makeImage_3 (by decide) ?_
  refine am_icmp_ge 21 dM_makeImage_5 (by decide) (fun hc1 => ?_) (fun hc1 => ?_)
  · replace h := h.1 hc1
    refine am_iconst (v := 0) dM_makeImage_21 (by decide) ?_
    refine am_istore_n (L2 := [(2, .int 0), (0, .ref (ad 28)), (1, .int x1)]) dM_makeImage_22 rfl (Nat.le_of_ble_eq_true rfl) rfl ?_
    exact am_sub [1, 2, 0] rfl (t_M_makeImage_23 hlt (fun _ _ _ h => h) h)
  · replace h := h.2 hc1
    refine am_aload_n 0 dM_makeImage_8 rfl rfl ?_
    refine go_M_behind dM_makeImage_9 (am_tw kw_678 rfl) ?_
    refine am_iload_n 2 dM_makeImage_12 rfl rfl ?_
    refine am_iconst (v := 0) dM_makeImage_13 (by decide) ?_
    obtain ⟨hi40, h⟩ := h
    refine st_39 hi40 dM_makeImage_14 ?_
    refine am_iinc (j := 2) (v := x2 + 1) (L2 := [(2, .int (x2 + 1)), (0, .ref (ad 28)), (1, .int x1)]) dM_makeImage_15 rfl (congrArg (x2 + ·) (by decide : Int32.ofInt (1) = 1)) (Nat.le_of_ble_eq_true rfl) rfl ?_
    refine am_goto 2 dM_makeImage_18 (by decide) ?_
    exact am_sub [1, 2, 0] rfl h

def w_M_makeImage (a0 : Int32) (I : am_MI) (J : am_MJ) (Q : am_MI → am_MJ → Prop) (X : String → am_MI → am_MJ → Prop) : Prop :=
  w_M_makeImage_2 a0 (0 : Int32) I J Q X
set_option maxRecDepth 20000 in
theorem t_M_makeImage {l : Launch} {D : va_G} {aC : Nat → ClassId} {ad : Nat → Nat} (hlt : l.stackTraces = false) {a0 : Int32} {I : am_MI} {J : am_MJ} {Q} {X} (h : w_M_makeImage a0 I J Q X) : am_c l D aC yM_makeImage (.code yM_makeImage cM_makeImage 4 none) (am_rm 2) 0 0 [.ref (ad 28), .int a0] (am_w ad aC I J) (am_lv ad aC Q) (am_lx ad aC X) := by
  unfold w_M_makeImage at h
  refine am_of (ini := false) hlt (by decide +kernel) (Nat.le_of_ble_eq_true rfl) (fun h => nomatch h) ?_
  show am l D aC "BubbleBoxModel" cM_makeImage 4 none false [] am_G0 (am_rm 2) 0 0 0 0 0 [(0, .ref (ad 28)), (1, .int a0)] [] (am_w ad aC I J) (am_lv ad aC Q) (am_lx ad aC X)
  refine am_iconst (v := 0) dM_makeImage_0 (by decide) ?_
  refine am_istore_n (L2 := [(2, .int 0), (0, .ref (ad 28)), (1, .int a0)]) dM_makeImage_1 rfl (Nat.le_of_ble_eq_true rfl) rfl ?_
  exact am_sub [1, 2, 0] rfl (t_M_makeImage_2 hlt h)
section
variable {l : Launch} {D : va_G} {aC : Nat → ClassId} {ad : Nat → Nat} {own : String} {cc : ByteArray} {nL : Nat} {ret : Option FieldType} {ini : Bool} {tb : List (Nat × Nat × Nat × Nat)} {G : State → (Nat → Prop) → Prop} {rm : Room} {mc ms k n pc idx : Nat} {L : List (Nat × Value)} {st rest : List Value} {I : am_MI} {J : am_MJ} {Q : Option Value → va_W → Prop} {X : String → va_W → Prop}
theorem kV_M_makeImage {a0 : Int32} {K : am_MI → am_MJ → Prop} {X1 : String → am_MI → am_MJ → Prop} (hd : decode cc pc = .ok (.invokevirtual idx, 3)) (hlink : Cond.methodLink own idx yM_makeImage ∈ am_TW) (hcat : (rest.map fun v => v.category).sum ≤ 8) (hR : 2 + 1 ≤ rm.frames ∧ 8 + (4 + 11) + 38 * 2 ≤ rm.locals) (hk : k + 1 ≤ rm.cells ∧ n + 6 ≤ rm.slots) (hm : k ≤ mc ∧ n ≤ ms) (hlt : l.stackTraces = false) (h : w_M_makeImage a0 I J K X1) (kk : ∀ (I1 : am_MI) (J1 : am_MJ), K I1 J1 → am l D aC own cc nL ret ini [] G rm mc ms k n (pc + 3) L rest (am_w ad aC I1 J1) Q (am_lx ad aC X1)) : am l D aC own cc nL ret ini [] G rm mc ms k n pc L (.int a0 :: .ref (ad 28) :: rest) (am_w ad aC I J) Q (am_lx ad aC X1) := by
  refine am_callV 28 6 (As := [.int a0]) (N9 := 1) (t_M_makeImage hlt h) hd rfl (am_w_at ad aC I J (by omega)) rfl hlink (am_tw kw_793 rfl) (am_tw kw_792 rfl) ks_58 (am_tw kw_7 rfl) (by decide +kernel) rfl hcat ⟨rfl, rfl⟩ hR hk (fun E ws1 hx => am_out (fun x hx => nomatch hx) (Nat.add_le_add_right hm.1 1) (Nat.add_le_add_right hm.2 6) hx) ?_
  intro v ws1 hq
  obtain ⟨I1, J1, rfl, rfl, hq⟩ := hq
  exact kk I1 J1 hq
end
def w_M_pageOf_25 (x1 : Int32) (x2 : Int32) (xs0 : Int32) (I : am_MI) (J : am_MJ) (Q : Int32 → am_MI → am_MJ → Prop) (X : String → am_MI → am_MJ → Prop) : Prop :=
  (((am_ui I 28 0 xs0) 28 0) ≤ 0 → ((x2 < 0 → (Q (-1) (am_ui I 28 0 xs0) J)) ∧ (¬ (x2 < 0) → (w_M_pages x1 (am_ui I 28 0 xs0) J (fun (r13 : Int32) (I11 : am_MI) (J12 : am_MJ) => (x2 < r13 → (vp_in (((64 : Int32) * x1) + x2) 512 ∧ (Q (I11 33 (((64 : Int32) * x1) + x2).toNatClampNeg) I11 J12))) ∧ (¬ (x2 < r13) → (Q (-1) I11 J12))) X)))) ∧ (¬ (((am_ui I 28 0 xs0) 28 0) ≤ 0) → (Q 0 (am_ui I 28 0 xs0) J))
set_option maxRecDepth 20000 in
theorem t_M_pageOf_25 {l : Launch} {D : va_G} {aC : Nat → ClassId} {ad : Nat → Nat} (hlt : l.stackTraces = false) {x1 : Int32} {x2 : Int32} {xs0 : Int32} {I : am_MI} {J : am_MJ} {Q} {X} (h : w_M_pageOf_25 x1 x2 xs0 I J Q X) : am l D aC "BubbleBoxModel" cM_pageOf 3 (some .int) false [] am_G0 (am_rm 2) 0 0 0 0 25 [(0, .ref (ad 28)), (1, .int x1), (2, .int x2)] [.int xs0, .ref (ad 28)] (am_w ad aC I J) (am_li ad aC Q) (am_lx ad aC X) := by
  unfold w_M_pageOf_25 at h
  refine po_M_code dM_pageOf_25 (am_tw kw_659 rfl) ?_
  refine am_aload_n 0 dM_pageOf_28 rfl rfl ?_
  refine go_M_code dM_pageOf_29 (am_tw kw_659 rfl) ?_
  refine am_if_le 39 dM_pageOf_32 (by decide) (fun hc9 => ?_) (fun hc9 => ?_)
  · replace h := h.1 hc9
    refine am_iload_n 2 dM_pageOf_39 rfl rfl ?_
    refine am_if_lt 52 dM_pageOf_40 (by decide) (fun hc10 => ?_) (fun hc10 => ?_)
    · replace h := h.1 hc10
      refine am_iconst (v := (-1)) dM_pageOf_52 (by decide) ?_
      refine am_goto 67 dM_pageOf_53 (by decide) ?_
      exact am_iret dM_pageOf_67 rfl (Nat.le_of_ble_eq_true rfl) (Nat.le_of_ble_eq_true rfl) ⟨_, _, _, rfl, rfl, h⟩
    · replace h := h.2 hc10
      refine am_iload_n 2 dM_pageOf_43 rfl rfl ?_
      refine am_aload_n 0 dM_pageOf_44 rfl rfl ?_
      refine am_iload_n 1 dM_pageOf_45 rfl rfl ?_
      refine kV_M_pages dM_pageOf_46 (am_tw kw_794 rfl) (Nat.le_of_ble_eq_true rfl) ⟨Nat.le_of_ble_eq_true rfl, Nat.le_of_ble_eq_true rfl⟩ ⟨Nat.le_of_ble_eq_true rfl, Nat.le_of_ble_eq_true rfl⟩ ⟨Nat.le_of_ble_eq_true rfl, Nat.le_of_ble_eq_true rfl⟩ hlt h (fun r13 I11 J12 h => ?_)
      refine am_icmp_lt 56 dM_pageOf_49 (by decide) (fun hc14 => ?_) (fun hc14 => ?_)
      · replace h := h.1 hc14
        refine am_aload_n 0 dM_pageOf_56 rfl rfl ?_
        refine go_M_chain dM_pageOf_57 (am_tw kw_670 rfl) ?_
        refine am_bipush (v := 64) dM_pageOf_60 (by decide) ?_
        refine am_iload_n 1 dM_pageOf_62 rfl rfl ?_
        refine am_imul dM_pageOf_63 ?_
        refine am_iload_n 2 dM_pageOf_64 rfl rfl ?_
        refine am_iadd dM_pageOf_65 ?_
        obtain ⟨hi15, h⟩ := h
        refine ld_33 hi15 dM_pageOf_66 ?_
        exact am_iret dM_pageOf_67 rfl (Nat.le_of_ble_eq_true rfl) (Nat.le_of_ble_eq_true rfl) ⟨_, _, _, rfl, rfl, h⟩
      · replace h := h.2 hc14
        refine am_iconst (v := (-1)) dM_pageOf_52 (by decide) ?_
        refine am_goto 67 dM_pageOf_53 (by decide) ?_
        exact am_iret dM_pageOf_67 rfl (Nat.le_of_ble_eq_true rfl) (Nat.le_of_ble_eq_true rfl) ⟨_, _, _, rfl, rfl, h⟩
  · replace h := h.2 hc9
    refine am_iconst (v := 0) dM_pageOf_35 (by decide) ?_
    refine am_goto 67 dM_pageOf_36 (by decide) ?_
    exact am_iret dM_pageOf_67 rfl (Nat.le_of_ble_eq_true rfl) (Nat.le_of_ble_eq_true rfl) ⟨_, _, _, rfl, rfl, h⟩

def w_M_pageOf (a0 : Int32) (a1 : Int32) (I : am_MI) (J : am_MJ) (Q : Int32 → am_MI → am_MJ → Prop) (X : String → am_MI → am_MJ → Prop) : Prop :=
  w_M_isReady I J (fun (r3 : Int32) (I1 : am_MI) (J2 : am_MJ) => (¬ r3 = 0 → (w_M_isFile a0 I1 J2 (fun (r7 : Int32) (I5 : am_MI) (J6 : am_MJ) => (¬ r7 = 0 → (w_M_pageOf_25 a0 a1 (0 : Int32) I5 J6 Q X)) ∧ (r7 = 0 → (w_M_pageOf_25 a0 a1 (2 : Int32) I5 J6 Q X))) X)) ∧ (r3 = 0 → (w_M_pageOf_25 a0 a1 (1 : Int32) I1 J2 Q X))) X
set_option maxRecDepth 20000 in
theorem t_M_pageOf {l : Launch} {D : va_G} {aC : Nat → ClassId} {ad : Nat → Nat} (hlt : l.stackTraces = false) {a0 : Int32} {a1 : Int32} {I : am_MI} {J : am_MJ} {Q} {X} (h : w_M_pageOf a0 a1 I J Q X) : am_c l D aC yM_pageOf (.code yM_pageOf cM_pageOf 3 (some .int)) (am_rm 2) 0 0 [.ref (ad 28), .int a0, .int a1] (am_w ad aC I J) (am_li ad aC Q) (am_lx ad aC X) := by
  unfold w_M_pageOf at h
  refine am_of (ini := false) hlt (by decide +kernel) (Nat.le_of_ble_eq_true rfl) (fun h => nomatch h) ?_
  show am l D aC "BubbleBoxModel" cM_pageOf 3 (some .int) false [] am_G0 (am_rm 2) 0 0 0 0 0 [(0, .ref (ad 28)), (1, .int a0), (2, .int a1)] [] (am_w ad aC I J) (am_li ad aC Q) (am_lx ad aC X)
  refine am_aload_n 0 dM_pageOf_0 rfl rfl ?_
  refine am_aload_n 0 dM_pageOf_1 rfl rfl ?_
  refine kV_M_isReady dM_pageOf_2 (am_tw kw_836 rfl) (Nat.le_of_ble_eq_true rfl) ⟨Nat.le_of_ble_eq_true rfl, Nat.le_of_ble_eq_true rfl⟩ ⟨Nat.le_of_ble_eq_true rfl, Nat.le_of_ble_eq_true rfl⟩ ⟨Nat.le_of_ble_eq_true rfl, Nat.le_of_ble_eq_true rfl⟩ hlt h (fun r3 I1 J2 h => ?_)
  refine am_if_ne 12 dM_pageOf_5 (by decide) (fun hc4 => ?_) (fun hc4 => ?_)
  · replace h := h.1 hc4
    refine am_aload_n 0 dM_pageOf_12 rfl rfl ?_
    refine am_iload_n 1 dM_pageOf_13 rfl rfl ?_
    refine kV_M_isFile dM_pageOf_14 (am_tw kw_852 rfl) (Nat.le_of_ble_eq_true rfl) ⟨Nat.le_of_ble_eq_true rfl, Nat.le_of_ble_eq_true rfl⟩ ⟨Nat.le_of_ble_eq_true rfl, Nat.le_of_ble_eq_true rfl⟩ ⟨Nat.le_of_ble_eq_true rfl, Nat.le_of_ble_eq_true rfl⟩ hlt h (fun r7 I5 J6 h => ?_)
    refine am_if_ne 24 dM_pageOf_17 (by decide) (fun hc8 => ?_) (fun hc8 => ?_)
    · replace h := h.1 hc8
      refine am_iconst (v := 0) dM_pageOf_24 (by decide) ?_
      exact am_sub [0, 1, 2] rfl (t_M_pageOf_25 hlt h)
    · replace h := h.2 hc8
      refine am_iconst (v := 2) dM_pageOf_20 (by decide) ?_
      refine am_goto 25 dM_pageOf_21 (by decide) ?_
      exact am_sub [0, 1, 2] rfl (t_M_pageOf_25 hlt h)
  · replace h := h.2 hc4
    refine am_iconst (v := 1) dM_pageOf_8 (by decide) ?_
    refine am_goto 25 dM_pageOf_9 (by decide) ?_
    exact am_sub [0, 1, 2] rfl (t_M_pageOf_25 hlt h)
section
variable {l : Launch} {D : va_G} {aC : Nat → ClassId} {ad : Nat → Nat} {own : String} {cc : ByteArray} {nL : Nat} {ret : Option FieldType} {ini : Bool} {tb : List (Nat × Nat × Nat × Nat)} {G : State → (Nat → Prop) → Prop} {rm : Room} {mc ms k n pc idx : Nat} {L : List (Nat × Value)} {st rest : List Value} {I : am_MI} {J : am_MJ} {Q : Option Value → va_W → Prop} {X : String → va_W → Prop}
theorem kV_M_pageOf {a0 : Int32} {a1 : Int32} {K : Int32 → am_MI → am_MJ → Prop} {X1 : String → am_MI → am_MJ → Prop} (hd : decode cc pc = .ok (.invokevirtual idx, 3)) (hlink : Cond.methodLink own idx yM_pageOf ∈ am_TW) (hcat : (rest.map fun v => v.category).sum ≤ 8) (hR : 2 + 1 ≤ rm.frames ∧ 8 + (3 + 11) + 38 * 2 ≤ rm.locals) (hk : k + 1 ≤ rm.cells ∧ n + 6 ≤ rm.slots) (hm : k ≤ mc ∧ n ≤ ms) (hlt : l.stackTraces = false) (h : w_M_pageOf a0 a1 I J K X1) (kk : ∀ (r : Int32) (I1 : am_MI) (J1 : am_MJ), K r I1 J1 → am l D aC own cc nL ret ini [] G rm mc ms k n (pc + 3) L (.int r :: rest) (am_w ad aC I1 J1) Q (am_lx ad aC X1)) : am l D aC own cc nL ret ini [] G rm mc ms k n pc L (.int a1 :: .int a0 :: .ref (ad 28) :: rest) (am_w ad aC I J) Q (am_lx ad aC X1) := by
  refine am_callV 28 6 (As := [.int a0, .int a1]) (N9 := 2) (t_M_pageOf hlt h) hd rfl (am_w_at ad aC I J (by omega)) rfl hlink (am_tw kw_904 rfl) (am_tw kw_902 rfl) (am_tw kw_903 rfl) (am_tw kw_7 rfl) (by decide +kernel) rfl hcat ⟨rfl, rfl⟩ hR hk (fun E ws1 hx => am_out (fun x hx => nomatch hx) (Nat.add_le_add_right hm.1 1) (Nat.add_le_add_right hm.2 6) hx) ?_
  intro v ws1 hq
  obtain ⟨r, I1, J1, rfl, rfl, hq⟩ := hq
  exact kk r I1 J1 hq
end
def w_M_queue_40 (x1 : Int32) (x2 : Int32) (x3 : Int64) (xs0 : Int32) (I : am_MI) (J : am_MJ) (Q : Int32 → am_MI → am_MJ → Prop) (X : String → am_MI → am_MJ → Prop) : Prop :=
  (((am_ui I 28 0 xs0) 28 0) ≤ 0 → (vp_in ((am_ui I 28 0 xs0) 28 20) 16 ∧ (vp_in ((am_ui (am_ui I 28 0 xs0) 40 ((am_ui I 28 0 xs0) 28 20).toNatClampNeg x1) 28 20) 16 ∧ (vp_in ((am_ui (am_ui (am_ui I 28 0 xs0) 40 ((am_ui I 28 0 xs0) 28 20).toNatClampNeg x1) 41 ((am_ui (am_ui I 28 0 xs0) 40 ((am_ui I 28 0 xs0) 28 20).toNatClampNeg x1) 28 20).toNatClampNeg (vp_nar .boolean x2)) 28 20) 16 ∧ (Q (((am_ui (am_ui (am_ui (am_ui I 28 0 xs0) 40 ((am_ui I 28 0 xs0) 28 20).toNatClampNeg x1) 41 ((am_ui (am_ui I 28 0 xs0) 40 ((am_ui I 28 0 xs0) 28 20).toNatClampNeg x1) 28 20).toNatClampNeg (vp_nar .boolean x2)) 28 20 (((am_ui (am_ui (am_ui I 28 0 xs0) 40 ((am_ui I 28 0 xs0) 28 20).toNatClampNeg x1) 41 ((am_ui (am_ui I 28 0 xs0) 40 ((am_ui I 28 0 xs0) 28 20).toNatClampNeg x1) 28 20).toNatClampNeg (vp_nar .boolean x2)) 28 20) + (1 : Int32))) 28 20) - (1 : Int32)) (am_ui (am_ui (am_ui (am_ui I 28 0 xs0) 40 ((am_ui I 28 0 xs0) 28 20).toNatClampNeg x1) 41 ((am_ui (am_ui I 28 0 xs0) 40 ((am_ui I 28 0 xs0) 28 20).toNatClampNeg x1) 28 20).toNatClampNeg (vp_nar .boolean x2)) 28 20 (((am_ui (am_ui (am_ui I 28 0 xs0) 40 ((am_ui I 28 0 xs0) 28 20).toNatClampNeg x1) 41 ((am_ui (am_ui I 28 0 xs0) 40 ((am_ui I 28 0 xs0) 28 20).toNatClampNeg x1) 28 20).toNatClampNeg (vp_nar .boolean x2)) 28 20) + (1 : Int32))) (am_uj J 42 ((am_ui (am_ui (am_ui I 28 0 xs0) 40 ((am_ui I 28 0 xs0) 28 20).toNatClampNeg x1) 41 ((am_ui (am_ui I 28 0 xs0) 40 ((am_ui I 28 0 xs0) 28 20).toNatClampNeg x1) 28 20).toNatClampNeg (vp_nar .boolean x2)) 28 20).toNatClampNeg x3)))))) ∧ (¬ (((am_ui I 28 0 xs0) 28 0) ≤ 0) → (Q 0 (am_ui I 28 0 xs0) J))
set_option maxRecDepth 20000 in
theorem t_M_queue_40 {l : Launch} {D : va_G} {aC : Nat → ClassId} {ad : Nat → Nat} (hlt : l.stackTraces = false) {x1 : Int32} {x2 : Int32} {x3 : Int64} {xs0 : Int32} {I : am_MI} {J : am_MJ} {Q} {X} (h : w_M_queue_40 x1 x2 x3 xs0 I J Q X) : am l D aC "BubbleBoxModel" cM_queue 5 (some .int) false [] am_G0 (am_rm 2) 0 0 0 0 40 [(0, .ref (ad 28)), (1, .int x1), (2, .int x2), (3, .long x3)] [.int xs0, .ref (ad 28)] (am_w ad aC I J) (am_li ad aC Q) (am_lx ad aC X) := by
  unfold w_M_queue_40 at h
  refine po_M_code dM_queue_40 (am_tw kw_659 rfl) ?_
  refine am_aload_n 0 dM_queue_43 rfl rfl ?_
  refine go_M_code dM_queue_44 (am_tw kw_659 rfl) ?_
  refine am_if_le 52 dM_queue_47 (by decide) (fun hc6 => ?_) (fun hc6 => ?_)
  · replace h := h.1 hc6
    refine am_aload_n 0 dM_queue_52 rfl rfl ?_
    refine go_M_askedPage dM_queue_53 (am_tw kw_680 rfl) ?_
    refine am_aload_n 0 dM_queue_56 rfl rfl ?_
    refine go_M_requests dM_queue_57 (am_tw kw_679 rfl) ?_
    refine am_iload_n 1 dM_queue_60 rfl rfl ?_
    obtain ⟨hi7, h⟩ := h
    refine st_40 hi7 dM_queue_61 ?_
    refine am_aload_n 0 dM_queue_62 rfl rfl ?_
    refine go_M_asksWrite dM_queue_63 (am_tw kw_681 rfl) ?_
    refine am_aload_n 0 dM_queue_66 rfl rfl ?_
    refine go_M_requests dM_queue_67 (am_tw kw_679 rfl) ?_
    refine am_iload_n 2 dM_queue_70 rfl rfl ?_
    obtain ⟨hi8, h⟩ := h
    refine st_41 hi8 dM_queue_71 ?_
    refine am_aload_n 0 dM_queue_72 rfl rfl ?_
    refine go_M_askedBits dM_queue_73 (am_tw kw_682 rfl) ?_
    refine am_aload_n 0 dM_queue_76 rfl rfl ?_
    refine go_M_requests dM_queue_77 (am_tw kw_679 rfl) ?_
    refine am_lload_n 3 dM_queue_80 rfl rfl ?_
    obtain ⟨hi9, h⟩ := h
    refine st_42 hi9 dM_queue_81 ?_
    refine am_aload_n 0 dM_queue_82 rfl rfl ?_
    refine am_dup dM_queue_83 rfl ?_
    refine go_M_requests dM_queue_84 (am_tw kw_679 rfl) ?_
    refine am_iconst (v := 1) dM_queue_87 (by decide) ?_
    refine am_iadd dM_queue_88 ?_
    refine po_M_requests dM_queue_89 (am_tw kw_679 rfl) ?_
    refine am_aload_n 0 dM_queue_92 rfl rfl ?_
    refine go_M_requests dM_queue_93 (am_tw kw_679 rfl) ?_
    refine am_iconst (v := 1) dM_queue_96 (by decide) ?_
    refine am_isub dM_queue_97 ?_
    exact am_iret dM_queue_98 rfl (Nat.le_of_ble_eq_true rfl) (Nat.le_of_ble_eq_true rfl) ⟨_, _, _, rfl, rfl, h⟩
  · replace h := h.2 hc6
    refine am_iconst (v := 0) dM_queue_50 (by decide) ?_
    exact am_iret dM_queue_51 rfl (Nat.le_of_ble_eq_true rfl) (Nat.le_of_ble_eq_true rfl) ⟨_, _, _, rfl, rfl, h⟩

def w_M_queue_22 (x1 : Int32) (x2 : Int32) (x3 : Int64) (I : am_MI) (J : am_MJ) (Q : Int32 → am_MI → am_MJ → Prop) (X : String → am_MI → am_MJ → Prop) : Prop :=
  w_M_queue_40 x1 x2 x3 (2 : Int32) I J Q X
set_option maxRecDepth 20000 in
theorem t_M_queue_22 {l : Launch} {D : va_G} {aC : Nat → ClassId} {ad : Nat → Nat} (hlt : l.stackTraces = false) {x1 : Int32} {x2 : Int32} {x3 : Int64} {I : am_MI} {J : am_MJ} {Q} {X} (h : w_M_queue_22 x1 x2 x3 I J Q X) : am l D aC "BubbleBoxModel" cM_queue 5 (some .int) false [] am_G0 (am_rm 2) 0 0 0 0 22 [(0, .ref (ad 28)), (1, .int x1), (2, .int x2), (3, .long x3)] [.ref (ad 28)] (am_w ad aC I J) (am_li ad aC Q) (am_lx ad aC X) := by
  unfold w_M_queue_22 at h
  refine am_iconst (v := 2) dM_queue_22 (by decide) ?_
  refine am_goto 40 dM_queue_23 (by decide) ?_
  exact am_sub [0, 1, 2, 3] rfl (t_M_queue_40 hlt h)

def w_M_queue (a0 : Int32) (a1 : Int32) (a2 : Int64) (I : am_MI) (J : am_MJ) (Q : Int32 → am_MI → am_MJ → Prop) (X : String → am_MI → am_MJ → Prop) : Prop :=
  w_M_isReady I J (fun (r3 : Int32) (I1 : am_MI) (J2 : am_MJ) => (¬ r3 = 0 → ((a0 < 0 → (w_M_queue_22 a0 a1 a2 I1 J2 Q X)) ∧ (¬ (a0 < 0) → ((a0 ≤ (100 : Int32) → ((¬ (I1 28 20) = (16 : Int32) → (w_M_queue_40 a0 a1 a2 (0 : Int32) I1 J2 Q X)) ∧ ((I1 28 20) = (16 : Int32) → (w_M_queue_40 a0 a1 a2 (3 : Int32) I1 J2 Q X)))) ∧ (¬ (a0 ≤ (100 : Int32)) → (w_M_queue_22 a0 a1 a2 I1 J2 Q X)))))) ∧ (r3 = 0 → (w_M_queue_40 a0 a1 a2 (1 : Int32) I1 J2 Q X))) X
set_option maxRecDepth 20000 in
theorem t_M_queue {l : Launch} {D : va_G} {aC : Nat → ClassId} {ad : Nat → Nat} (hlt : l.stackTraces = false) {a0 : Int32} {a1 : Int32} {a2 : Int64} {I : am_MI} {J : am_MJ} {Q} {X} (h : w_M_queue a0 a1 a2 I J Q X) : am_c l D aC yM_queue (.code yM_queue cM_queue 5 (some .int)) (am_rm 2) 0 0 [.ref (ad 28), .int a0, .int a1, .long a2] (am_w ad aC I J) (am_li ad aC Q) (am_lx ad aC X) := by
  unfold w_M_queue at h
  refine am_of (ini := false) hlt (by decide +kernel) (Nat.le_of_ble_eq_true rfl) (fun h => nomatch h) ?_
  show am l D aC "BubbleBoxModel" cM_queue 5 (some .int) false [] am_G0 (am_rm 2) 0 0 0 0 0 [(0, .ref (ad 28)), (1, .int a0), (2, .int a1), (3, .long a2)] [] (am_w ad aC I J) (am_li ad aC Q) (am_lx ad aC X)
  refine am_aload_n 0 dM_queue_0 rfl rfl ?_
  refine am_aload_n 0 dM_queue_1 rfl rfl ?_
  refine kV_M_isReady dM_queue_2 (am_tw kw_836 rfl) (Nat.le_of_ble_eq_true rfl) ⟨Nat.le_of_ble_eq_true rfl, Nat.le_of_ble_eq_true rfl⟩ ⟨Nat.le_of_ble_eq_true rfl, Nat.le_of_ble_eq_true rfl⟩ ⟨Nat.le_of_ble_eq_true rfl, Nat.le_of_ble_eq_true rfl⟩ hlt h (fun r3 I1 J2 h => ?_)
  refine am_if_ne 12 dM_queue_5 (by decide) (fun hc4 => ?_) (fun hc4 => ?_)
  · replace h := h.1 hc4
    refine am_iload_n 1 dM_queue_12 rfl rfl ?_
    refine am_if_lt 22 dM_queue_13 (by decide) (fun hc5 => ?_) (fun hc5 => ?_)
    · replace h := h.1 hc5
      exact am_sub [0, 1, 2, 3] rfl (t_M_queue_22 hlt h)
    · replace h := h.2 hc5
      refine am_iload_n 1 dM_queue_16 rfl rfl ?_
      refine am_bipush (v := 100) dM_queue_17 (by decide) ?_
      refine am_icmp_le 26 dM_queue_19 (by decide) (fun hc10 => ?_) (fun hc10 => ?_)
      · replace h := h.1 hc10
        refine am_aload_n 0 dM_queue_26 rfl rfl ?_
        refine go_M_requests dM_queue_27 (am_tw kw_679 rfl) ?_
        refine am_bipush (v := 16) dM_queue_30 (by decide) ?_
        refine am_icmp_ne 39 dM_queue_32 (by decide) (fun hc11 => ?_) (fun hc11 => ?_)
        · replace h := h.1 hc11
          refine am_iconst (v := 0) dM_queue_39 (by decide) ?_
          exact am_sub [0, 1, 2, 3] rfl (t_M_queue_40 hlt h)
        · replace h := h.2 hc11
          refine am_iconst (v := 3) dM_queue_35 (by decide) ?_
          refine am_goto 40 dM_queue_36 (by decide) ?_
          exact am_sub [0, 1, 2, 3] rfl (t_M_queue_40 hlt h)
      · replace h := h.2 hc10
        exact am_sub [0, 1, 2, 3] rfl (t_M_queue_22 hlt h)
  · replace h := h.2 hc4
    refine am_iconst (v := 1) dM_queue_8 (by decide) ?_
    refine am_goto 40 dM_queue_9 (by decide) ?_
    exact am_sub [0, 1, 2, 3] rfl (t_M_queue_40 hlt h)
section
variable {l : Launch} {D : va_G} {aC : Nat → ClassId} {ad : Nat → Nat} {own : String} {cc : ByteArray} {nL : Nat} {ret : Option FieldType} {ini : Bool} {tb : List (Nat × Nat × Nat × Nat)} {G : State → (Nat → Prop) → Prop} {rm : Room} {mc ms k n pc idx : Nat} {L : List (Nat × Value)} {st rest : List Value} {I : am_MI} {J : am_MJ} {Q : Option Value → va_W → Prop} {X : String → va_W → Prop}
theorem kV_M_queue {a0 : Int32} {a1 : Int32} {a2 : Int64} {K : Int32 → am_MI → am_MJ → Prop} {X1 : String → am_MI → am_MJ → Prop} (hd : decode cc pc = .ok (.invokevirtual idx, 3)) (hlink : Cond.methodLink own idx yM_queue ∈ am_TW) (hcat : (rest.map fun v => v.category).sum ≤ 8) (hR : 2 + 1 ≤ rm.frames ∧ 8 + (5 + 11) + 38 * 2 ≤ rm.locals) (hk : k + 1 ≤ rm.cells ∧ n + 6 ≤ rm.slots) (hm : k ≤ mc ∧ n ≤ ms) (hlt : l.stackTraces = false) (h : w_M_queue a0 a1 a2 I J K X1) (kk : ∀ (r : Int32) (I1 : am_MI) (J1 : am_MJ), K r I1 J1 → am l D aC own cc nL ret ini [] G rm mc ms k n (pc + 3) L (.int r :: rest) (am_w ad aC I1 J1) Q (am_lx ad aC X1)) : am l D aC own cc nL ret ini [] G rm mc ms k n pc L (.long a2 :: .int a1 :: .int a0 :: .ref (ad 28) :: rest) (am_w ad aC I J) Q (am_lx ad aC X1) := by
  refine am_callV 28 6 (As := [.int a0, .int a1, .long a2]) (N9 := 3) (t_M_queue hlt h) hd rfl (am_w_at ad aC I J (by omega)) rfl hlink (am_tw kw_908 rfl) (am_tw kw_906 rfl) (am_tw kw_907 rfl) (am_tw kw_7 rfl) (by decide +kernel) rfl hcat ⟨rfl, rfl⟩ hR hk (fun E ws1 hx => am_out (fun x hx => nomatch hx) (Nat.add_le_add_right hm.1 1) (Nat.add_le_add_right hm.2 6) hx) ?_
  intro v ws1 hq
  obtain ⟨r, I1, J1, rfl, rfl, hq⟩ := hq
  exact kk r I1 J1 hq
end
def w_M_served_29 (x1 : Int32) (xs0 : Int32) (I : am_MI) (J : am_MJ) (Q : Int64 → am_MI → am_MJ → Prop) (X : String → am_MI → am_MJ → Prop) : Prop :=
  (((am_ui I 28 0 xs0) 28 0) ≤ 0 → (vp_in x1 16 ∧ (Q (J 44 x1.toNatClampNeg) (am_ui I 28 0 xs0) J))) ∧ (¬ (((am_ui I 28 0 xs0) 28 0) ≤ 0) → (Q 0 (am_ui I 28 0 xs0) J))
set_option maxRecDepth 20000 in
theorem t_M_served_29 {l : Launch} {D : va_G} {aC : Nat → ClassId} {ad : Nat → Nat} (hlt : l.stackTraces = false) {x1 : Int32} {xs0 : Int32} {I : am_MI} {J : am_MJ} {Q} {X} (h : w_M_served_29 x1 xs0 I J Q X) : am l D aC "BubbleBoxModel" cM_served 2 (some .long) false [] am_G0 (am_rm 2) 0 0 0 0 29 [(0, .ref (ad 28)), (1, .int x1)] [.int xs0, .ref (ad 28)] (am_w ad aC I J) (am_ll ad aC Q) (am_lx ad aC X) := by
  unfold w_M_served_29 at h
  refine po_M_code dM_served_29 (am_tw kw_659 rfl) ?_
  refine am_aload_n 0 dM_served_32 rfl rfl ?_
  refine go_M_code dM_served_33 (am_tw kw_659 rfl) ?_
  refine am_if_le 43 dM_served_36 (by decide) (fun hc6 => ?_) (fun hc6 => ?_)
  · replace h := h.1 hc6
    refine am_aload_n 0 dM_served_43 rfl rfl ?_
    refine go_M_answer dM_served_44 (am_tw kw_685 rfl) ?_
    refine am_iload_n 1 dM_served_47 rfl rfl ?_
    obtain ⟨hi7, h⟩ := h
    refine ld_44 hi7 dM_served_48 ?_
    exact am_lret dM_served_49 rfl (Nat.le_of_ble_eq_true rfl) (Nat.le_of_ble_eq_true rfl) ⟨_, _, _, rfl, rfl, h⟩
  · replace h := h.2 hc6
    refine am_lconst (v := 0) dM_served_39 (by decide) ?_
    refine am_goto 49 dM_served_40 (by decide) ?_
    exact am_lret dM_served_49 rfl (Nat.le_of_ble_eq_true rfl) (Nat.le_of_ble_eq_true rfl) ⟨_, _, _, rfl, rfl, h⟩

def w_M_served_24 (x1 : Int32) (I : am_MI) (J : am_MJ) (Q : Int64 → am_MI → am_MJ → Prop) (X : String → am_MI → am_MJ → Prop) : Prop :=
  w_M_served_29 x1 (2 : Int32) I J Q X
set_option maxRecDepth 20000 in
theorem t_M_served_24 {l : Launch} {D : va_G} {aC : Nat → ClassId} {ad : Nat → Nat} (hlt : l.stackTraces = false) {x1 : Int32} {I : am_MI} {J : am_MJ} {Q} {X} (h : w_M_served_24 x1 I J Q X) : am l D aC "BubbleBoxModel" cM_served 2 (some .long) false [] am_G0 (am_rm 2) 0 0 0 0 24 [(0, .ref (ad 28)), (1, .int x1)] [.ref (ad 28)] (am_w ad aC I J) (am_ll ad aC Q) (am_lx ad aC X) := by
  unfold w_M_served_24 at h
  refine am_iconst (v := 2) dM_served_24 (by decide) ?_
  refine am_goto 29 dM_served_25 (by decide) ?_
  exact am_sub [0, 1] rfl (t_M_served_29 hlt h)

def w_M_served (a0 : Int32) (I : am_MI) (J : am_MJ) (Q : Int64 → am_MI → am_MJ → Prop) (X : String → am_MI → am_MJ → Prop) : Prop :=
  w_M_isReady I J (fun (r3 : Int32) (I1 : am_MI) (J2 : am_MJ) => (¬ r3 = 0 → ((a0 < 0 → (w_M_served_24 a0 I1 J2 Q X)) ∧ (¬ (a0 < 0) → ((a0 < (I1 28 25) → (w_M_served_29 a0 (0 : Int32) I1 J2 Q X)) ∧ (¬ (a0 < (I1 28 25)) → (w_M_served_24 a0 I1 J2 Q X)))))) ∧ (r3 = 0 → (w_M_served_29 a0 (1 : Int32) I1 J2 Q X))) X
set_option maxRecDepth 20000 in
theorem t_M_served {l : Launch} {D : va_G} {aC : Nat → ClassId} {ad : Nat → Nat} (hlt : l.stackTraces = false) {a0 : Int32} {I : am_MI} {J : am_MJ} {Q} {X} (h : w_M_served a0 I J Q X) : am_c l D aC yM_served (.code yM_served cM_served 2 (some .long)) (am_rm 2) 0 0 [.ref (ad 28), .int a0] (am_w ad aC I J) (am_ll ad aC Q) (am_lx ad aC X) := by
  unfold w_M_served at h
  refine am_of (ini := false) hlt (by decide +kernel) (Nat.le_of_ble_eq_true rfl) (fun h => nomatch h) ?_
  show am l D aC "BubbleBoxModel" cM_served 2 (some .long) false [] am_G0 (am_rm 2) 0 0 0 0 0 [(0, .ref (ad 28)), (1, .int a0)] [] (am_w ad aC I J) (am_ll ad aC Q) (am_lx ad aC X)
  refine am_aload_n 0 dM_served_0 rfl rfl ?_
  refine am_aload_n 0 dM_served_1 rfl rfl ?_
  refine kV_M_isReady dM_served_2 (am_tw kw_836 rfl) (Nat.le_of_ble_eq_true rfl) ⟨Nat.le_of_ble_eq_true rfl, Nat.le_of_ble_eq_true rfl⟩ ⟨Nat.le_of_ble_eq_true rfl, Nat.le_of_ble_eq_true rfl⟩ ⟨Nat.le_of_ble_eq_true rfl, Nat.le_of_ble_eq_true rfl⟩ hlt h (fun r3 I1 J2 h => ?_)
  refine am_if_ne 12 dM_served_5 (by decide) (fun hc4 => ?_) (fun hc4 => ?_)
  · replace h := h.1 hc4
    refine am_iload_n 1 dM_served_12 rfl rfl ?_
    refine am_if_lt 24 dM_served_13 (by decide) (fun hc5 => ?_) (fun hc5 => ?_)
    · replace h := h.1 hc5
      exact am_sub [0, 1] rfl (t_M_served_24 hlt h)
    · replace h := h.2 hc5
      refine am_iload_n 1 dM_served_16 rfl rfl ?_
      refine am_aload_n 0 dM_served_17 rfl rfl ?_
      refine go_M_answers dM_served_18 (am_tw kw_684 rfl) ?_
      refine am_icmp_lt 28 dM_served_21 (by decide) (fun hc8 => ?_) (fun hc8 => ?_)
      · replace h := h.1 hc8
        refine am_iconst (v := 0) dM_served_28 (by decide) ?_
        exact am_sub [0, 1] rfl (t_M_served_29 hlt h)
      · replace h := h.2 hc8
        exact am_sub [0, 1] rfl (t_M_served_24 hlt h)
  · replace h := h.2 hc4
    refine am_iconst (v := 1) dM_served_8 (by decide) ?_
    refine am_goto 29 dM_served_9 (by decide) ?_
    exact am_sub [0, 1] rfl (t_M_served_29 hlt h)
section
variable {l : Launch} {D : va_G} {aC : Nat → ClassId} {ad : Nat → Nat} {own : String} {cc : ByteArray} {nL : Nat} {ret : Option FieldType} {ini : Bool} {tb : List (Nat × Nat × Nat × Nat)} {G : State → (Nat → Prop) → Prop} {rm : Room} {mc ms k n pc idx : Nat} {L : List (Nat × Value)} {st rest : List Value} {I : am_MI} {J : am_MJ} {Q : Option Value → va_W → Prop} {X : String → va_W → Prop}
theorem kV_M_served {a0 : Int32} {K : Int64 → am_MI → am_MJ → Prop} {X1 : String → am_MI → am_MJ → Prop} (hd : decode cc pc = .ok (.invokevirtual idx, 3)) (hlink : Cond.methodLink own idx yM_served ∈ am_TW) (hcat : (rest.map fun v => v.category).sum ≤ 8) (hR : 2 + 1 ≤ rm.frames ∧ 8 + (2 + 11) + 38 * 2 ≤ rm.locals) (hk : k + 1 ≤ rm.cells ∧ n + 6 ≤ rm.slots) (hm : k ≤ mc ∧ n ≤ ms) (hlt : l.stackTraces = false) (h : w_M_served a0 I J K X1) (kk : ∀ (r : Int64) (I1 : am_MI) (J1 : am_MJ), K r I1 J1 → am l D aC own cc nL ret ini [] G rm mc ms k n (pc + 3) L (.long r :: rest) (am_w ad aC I1 J1) Q (am_lx ad aC X1)) : am l D aC own cc nL ret ini [] G rm mc ms k n pc L (.int a0 :: .ref (ad 28) :: rest) (am_w ad aC I J) Q (am_lx ad aC X1) := by
  refine am_callV 28 6 (As := [.int a0]) (N9 := 1) (t_M_served hlt h) hd rfl (am_w_at ad aC I J (by omega)) rfl hlink (am_tw kw_916 rfl) (am_tw kw_914 rfl) (am_tw kw_915 rfl) (am_tw kw_7 rfl) (by decide +kernel) rfl hcat ⟨rfl, rfl⟩ hR hk (fun E ws1 hx => am_out (fun x hx => nomatch hx) (Nat.add_le_add_right hm.1 1) (Nat.add_le_add_right hm.2 6) hx) ?_
  intro v ws1 hq
  obtain ⟨r, I1, J1, rfl, rfl, hq⟩ := hq
  exact kk r I1 J1 hq
end
def w_M_shorten_20 (x1 : Int32) (x2 : Int32) (x4 : Int32) (x5 : Int32) (I : am_MI) (J : am_MJ) (Q : Int32 → am_MI → am_MJ → Prop) (X : String → am_MI → am_MJ → Prop) : Prop :=
  ∀ P20 : Int32 → am_MI → am_MJ → Prop, (∀ (x5 : Int32) (I : am_MI) (J : am_MJ), (w_M_pages x1 I J (fun (r6 : Int32) (I4 : am_MI) (J5 : am_MJ) => (r6 ≤ x5 → (vp_in x1 8 ∧ (Q x4 (am_ui I4 32 x1.toNatClampNeg x2) J5))) ∧ (¬ (r6 ≤ x5) → (vp_in x1 8 ∧ (vp_in (((64 : Int32) * x1) + x5) 512 ∧ ((¬ (I4 34 x1.toNatClampNeg) = (I4 33 (((64 : Int32) * x1) + x5).toNatClampNeg) → (P20 (x5 + 1) I4 J5)) ∧ ((I4 34 x1.toNatClampNeg) = (I4 33 (((64 : Int32) * x1) + x5).toNatClampNeg) → (vp_in x1 8 ∧ (vp_in x1 8 ∧ (P20 (x5 + 1) (am_ui (am_ui I4 34 x1.toNatClampNeg ((-1) : Int32)) 36 x1.toNatClampNeg (vp_nar .boolean (0 : Int32))) J5))))))))) X) → P20 x5 I J) → P20 x5 I J
set_option maxRecDepth 20000 in
theorem t_M_shorten_20 {l : Launch} {D : va_G} {aC : Nat → ClassId} {ad : Nat → Nat} (hlt : l.stackTraces = false) {x1 : Int32} {x2 : Int32} {x4 : Int32} {x5 : Int32} {I : am_MI} {J : am_MJ} {Q} {X} (h : w_M_shorten_20 x1 x2 x4 x5 I J Q X) : am l D aC "BubbleBoxModel" cM_shorten 6 (some .int) false [] am_G0 (am_rm 2) 0 0 0 0 20 [(0, .ref (ad 28)), (1, .int x1), (2, .int x2), (4, .int x4), (5, .int x5)] [] (am_w ad aC I J) (am_li ad aC Q) (am_lx ad aC X) := by
  unfold w_M_shorten_20 at h
  refine h (fun (x5 : Int32) (I : am_MI) (J : am_MJ) => am l D aC "BubbleBoxModel" cM_shorten 6 (some .int) false [] am_G0 (am_rm 2) 0 0 0 0 20 [(0, .ref (ad 28)), (1, .int x1), (2, .int x2), (4, .int x4), (5, .int x5)] [] (am_w ad aC I J) (am_li ad aC Q) (am_lx ad aC X)) (fun x5 I J h => ?_)
  refine am_iload 4 dM_shorten_20 rfl ?_
  refine am_aload_n 0 dM_shorten_22 rfl rfl ?_
  refine am_iload_n 1 dM_shorten_23 rfl rfl ?_
  refine kV_M_pages dM_shorten_24 (am_tw kw_794 rfl) (Nat.le_of_ble_eq_true rfl) ⟨Nat.le_of_ble_eq_true rfl, Nat.le_of_ble_eq_true rfl⟩ ⟨Nat.le_of_ble_eq_true rfl, Nat.le_of_ble_eq_true rfl⟩ ⟨Nat.le_of_ble_eq_true rfl, Nat.le_of_ble_eq_true rfl⟩ hlt h (fun r6 I4 J5 h => ?_)
  refine am_icmp_ge 71 dM_shorten_27 (by decide) (fun hc7 => ?_) (fun hc7 => ?_)
  · replace h := h.1 hc7
    refine am_aload_n 0 dM_shorten_71 rfl rfl ?_
    refine go_M_length dM_shorten_72 (am_tw kw_669 rfl) ?_
    refine am_iload_n 1 dM_shorten_75 rfl rfl ?_
    refine am_iload_n 2 dM_shorten_76 rfl rfl ?_
    obtain ⟨hi8, h⟩ := h
    refine st_32 hi8 dM_shorten_77 ?_
    refine am_iload 3 dM_shorten_78 rfl ?_
    exact am_iret dM_shorten_80 rfl (Nat.le_of_ble_eq_true rfl) (Nat.le_of_ble_eq_true rfl) ⟨_, _, _, rfl, rfl, h⟩
  · replace h := h.2 hc7
    refine am_aload_n 0 dM_shorten_30 rfl rfl ?_
    refine go_M_windowPage dM_shorten_31 (am_tw kw_671 rfl) ?_
    refine am_iload_n 1 dM_shorten_34 rfl rfl ?_
    obtain ⟨hi9, h⟩ := h
    refine ld_34 hi9 dM_shorten_35 ?_
    refine am_aload_n 0 dM_shorten_36 rfl rfl ?_
    refine go_M_chain dM_shorten_37 (am_tw kw_670 rfl) ?_
    refine am_bipush (v := 64) dM_shorten_40 (by decide) ?_
    refine am_iload_n 1 dM_shorten_42 rfl rfl ?_
    refine am_imul dM_shorten_43 ?_
    refine am_iload 4 dM_shorten_44 rfl ?_
    refine am_iadd dM_shorten_46 ?_
    obtain ⟨hi10, h⟩ := h
    refine ld_33 hi10 dM_shorten_47 ?_
    refine am_icmp_ne 65 dM_shorten_48 (by decide) (fun hc11 => ?_) (fun hc11 => ?_)
    · replace h := h.1 hc11
      refine am_iinc (j := 4) (v := x5 + 1) (L2 := [(5, .int (x5 + 1)), (0, .ref (ad 28)), (1, .int x1), (2, .int x2), (4, .int x4)]) dM_shorten_65 rfl (congrArg (x5 + ·) (by decide : Int32.ofInt (1) = 1)) (Nat.le_of_ble_eq_true rfl) rfl ?_
      refine am_goto 20 dM_shorten_68 (by decide) ?_
      exact am_sub [1, 2, 3, 4, 0] rfl h
    · replace h := h.2 hc11
      refine am_aload_n 0 dM_shorten_51 rfl rfl ?_
      refine go_M_windowPage dM_shorten_52 (am_tw kw_671 rfl) ?_
      refine am_iload_n 1 dM_shorten_55 rfl rfl ?_
      refine am_iconst (v := (-1)) dM_shorten_56 (by decide) ?_
      obtain ⟨hi12, h⟩ := h
      refine st_34 hi12 dM_shorten_57 ?_
      refine am_aload_n 0 dM_shorten_58 rfl rfl ?_
      refine go_M_changed dM_shorten_59 (am_tw kw_673 rfl) ?_
      refine am_iload_n 1 dM_shorten_62 rfl rfl ?_
      refine am_iconst (v := 0) dM_shorten_63 (by decide) ?_
      obtain ⟨hi13, h⟩ := h
      refine st_36 hi13 dM_shorten_64 ?_
      refine am_iinc (j := 4) (v := x5 + 1) (L2 := [(5, .int (x5 + 1)), (0, .ref (ad 28)), (1, .int x1), (2, .int x2), (4, .int x4)]) dM_shorten_65 rfl (congrArg (x5 + ·) (by decide : Int32.ofInt (1) = 1)) (Nat.le_of_ble_eq_true rfl) rfl ?_
      refine am_goto 20 dM_shorten_68 (by decide) ?_
      exact am_sub [1, 2, 3, 4, 0] rfl h

def w_M_shorten (a0 : Int32) (a1 : Int32) (I : am_MI) (J : am_MJ) (Q : Int32 → am_MI → am_MJ → Prop) (X : String → am_MI → am_MJ → Prop) : Prop :=
  w_M_pages a0 I J (fun (r3 : Int32) (I1 : am_MI) (J2 : am_MJ) => w_M_shorten_20 a0 a1 (r3 - ((a1 + (7 : Int32)) / (8 : Int32))) ((a1 + (7 : Int32)) / (8 : Int32)) I1 J2 Q X) X
set_option maxRecDepth 20000 in
theorem t_M_shorten {l : Launch} {D : va_G} {aC : Nat → ClassId} {ad : Nat → Nat} (hlt : l.stackTraces = false) {a0 : Int32} {a1 : Int32} {I : am_MI} {J : am_MJ} {Q} {X} (h : w_M_shorten a0 a1 I J Q X) : am_c l D aC yM_shorten (.code yM_shorten cM_shorten 6 (some .int)) (am_rm 2) 0 0 [.ref (ad 28), .int a0, .int a1] (am_w ad aC I J) (am_li ad aC Q) (am_lx ad aC X) := by
  unfold w_M_shorten at h
  refine am_of (ini := false) hlt (by decide +kernel) (Nat.le_of_ble_eq_true rfl) (fun h => nomatch h) ?_
  show am l D aC "BubbleBoxModel" cM_shorten 6 (some .int) false [] am_G0 (am_rm 2) 0 0 0 0 0 [(0, .ref (ad 28)), (1, .int a0), (2, .int a1)] [] (am_w ad aC I J) (am_li ad aC Q) (am_lx ad aC X)
  refine am_iload_n 2 dM_shorten_0 rfl rfl ?_
  refine am_bipush (v := 7) dM_shorten_1 (by decide) ?_
  refine am_iadd dM_shorten_3 ?_
  refine am_bipush (v := 8) dM_shorten_4 (by decide) ?_
  refine am_idiv dM_shorten_6 (by decide) ?_
  refine am_istore_n (L2 := [(3, .int ((a1 + (7 : Int32)) / (8 : Int32))), (0, .ref (ad 28)), (1, .int a0), (2, .int a1)]) dM_shorten_7 rfl (Nat.le_of_ble_eq_true rfl) rfl ?_
  refine am_aload_n 1 dM_shorten_8 rfl rfl ?_
  refine am_iload_n 2 dM_shorten_9 rfl rfl ?_
  refine kV_M_pages dM_shorten_10 (am_tw kw_794 rfl) (Nat.le_of_ble_eq_true rfl) ⟨Nat.le_of_ble_eq_true rfl, Nat.le_of_ble_eq_true rfl⟩ ⟨Nat.le_of_ble_eq_true rfl, Nat.le_of_ble_eq_true rfl⟩ ⟨Nat.le_of_ble_eq_true rfl, Nat.le_of_ble_eq_true rfl⟩ hlt h (fun r3 I1 J2 h => ?_)
  refine am_iload_n 0 dM_shorten_13 rfl rfl ?_
  refine am_isub dM_shorten_14 ?_
  refine am_istore (L2 := [(4, .int (r3 - ((a1 + (7 : Int32)) / (8 : Int32)))), (3, .int ((a1 + (7 : Int32)) / (8 : Int32))), (0, .ref (ad 28)), (1, .int a0), (2, .int a1)]) dM_shorten_15 (Nat.le_of_ble_eq_true rfl) rfl ?_
  refine am_iload_n 1 dM_shorten_17 rfl rfl ?_
  refine am_istore (L2 := [(5, .int ((a1 + (7 : Int32)) / (8 : Int32))), (4, .int (r3 - ((a1 + (7 : Int32)) / (8 : Int32)))), (3, .int ((a1 + (7 : Int32)) / (8 : Int32))), (0, .ref (ad 28)), (1, .int a0), (2, .int a1)]) dM_shorten_18 (Nat.le_of_ble_eq_true rfl) rfl ?_
  exact am_sub [3, 4, 5, 1, 0] rfl (t_M_shorten_20 hlt h)
section
variable {l : Launch} {D : va_G} {aC : Nat → ClassId} {ad : Nat → Nat} {own : String} {cc : ByteArray} {nL : Nat} {ret : Option FieldType} {ini : Bool} {tb : List (Nat × Nat × Nat × Nat)} {G : State → (Nat → Prop) → Prop} {rm : Room} {mc ms k n pc idx : Nat} {L : List (Nat × Value)} {st rest : List Value} {I : am_MI} {J : am_MJ} {Q : Option Value → va_W → Prop} {X : String → va_W → Prop}
theorem kV_M_shorten {a0 : Int32} {a1 : Int32} {K : Int32 → am_MI → am_MJ → Prop} {X1 : String → am_MI → am_MJ → Prop} (hd : decode cc pc = .ok (.invokevirtual idx, 3)) (hlink : Cond.methodLink own idx yM_shorten ∈ am_TW) (hcat : (rest.map fun v => v.category).sum ≤ 8) (hR : 2 + 1 ≤ rm.frames ∧ 8 + (6 + 11) + 38 * 2 ≤ rm.locals) (hk : k + 1 ≤ rm.cells ∧ n + 6 ≤ rm.slots) (hm : k ≤ mc ∧ n ≤ ms) (hlt : l.stackTraces = false) (h : w_M_shorten a0 a1 I J K X1) (kk : ∀ (r : Int32) (I1 : am_MI) (J1 : am_MJ), K r I1 J1 → am l D aC own cc nL ret ini [] G rm mc ms k n (pc + 3) L (.int r :: rest) (am_w ad aC I1 J1) Q (am_lx ad aC X1)) : am l D aC own cc nL ret ini [] G rm mc ms k n pc L (.int a1 :: .int a0 :: .ref (ad 28) :: rest) (am_w ad aC I J) Q (am_lx ad aC X1) := by
  refine am_callV 28 6 (As := [.int a0, .int a1]) (N9 := 2) (t_M_shorten hlt h) hd rfl (am_w_at ad aC I J (by omega)) rfl hlink (am_tw kw_888 rfl) (am_tw kw_887 rfl) ks_74 (am_tw kw_7 rfl) (by decide +kernel) rfl hcat ⟨rfl, rfl⟩ hR hk (fun E ws1 hx => am_out (fun x hx => nomatch hx) (Nat.add_le_add_right hm.1 1) (Nat.add_le_add_right hm.2 6) hx) ?_
  intro v ws1 hq
  obtain ⟨r, I1, J1, rfl, rfl, hq⟩ := hq
  exact kk r I1 J1 hq
end

def w_M_turnTo (a0 : Int32) (I : am_MI) (J : am_MJ) (Q : am_MI → am_MJ → Prop) (X : String → am_MI → am_MJ → Prop) : Prop :=
  w_M_stepsTo a0 I J (fun (r3 : Int32) (I1 : am_MI) (J2 : am_MJ) => Q (am_ui I1 28 4 a0) (am_uj J2 28 5 ((J 28 5) + r3.toInt64))) X
set_option maxRecDepth 20000 in
theorem t_M_turnTo {l : Launch} {D : va_G} {aC : Nat → ClassId} {ad : Nat → Nat} (hlt : l.stackTraces = false) {a0 : Int32} {I : am_MI} {J : am_MJ} {Q} {X} (h : w_M_turnTo a0 I J Q X) : am_c l D aC yM_turnTo (.code yM_turnTo cM_turnTo 2 none) (am_rm 2) 0 0 [.ref (ad 28), .int a0] (am_w ad aC I J) (am_lv ad aC Q) (am_lx ad aC X) := by
  unfold w_M_turnTo at h
  refine am_of (ini := false) hlt (by decide +kernel) (Nat.le_of_ble_eq_true rfl) (fun h => nomatch h) ?_
  show am l D aC "BubbleBoxModel" cM_turnTo 2 none false [] am_G0 (am_rm 2) 0 0 0 0 0 [(0, .ref (ad 28)), (1, .int a0)] [] (am_w ad aC I J) (am_lv ad aC Q) (am_lx ad aC X)
  refine am_aload_n 0 dM_turnTo_0 rfl rfl ?_
  refine am_aload_n 0 dM_turnTo_1 rfl rfl ?_
  refine go_M_steps dM_turnTo_2 (am_tw kw_664 rfl) ?_
  refine am_aload_n 0 dM_turnTo_5 rfl rfl ?_
  refine am_iload_n 1 dM_turnTo_6 rfl rfl ?_
  refine kV_M_stepsTo dM_turnTo_7 (am_tw kw_786 rfl) (Nat.le_of_ble_eq_true rfl) ⟨Nat.le_of_ble_eq_true rfl, Nat.le_of_ble_eq_true rfl⟩ ⟨Nat.le_of_ble_eq_true rfl, Nat.le_of_ble_eq_true rfl⟩ ⟨Nat.le_of_ble_eq_true rfl, Nat.le_of_ble_eq_true rfl⟩ hlt h (fun r3 I1 J2 h => ?_)
  refine am_i2l dM_turnTo_10 ?_
  refine am_ladd dM_turnTo_11 ?_
  refine po_M_steps dM_turnTo_12 (am_tw kw_664 rfl) ?_
  refine am_aload_n 0 dM_turnTo_15 rfl rfl ?_
  refine am_iload_n 1 dM_turnTo_16 rfl rfl ?_
  refine po_M_position dM_turnTo_17 (am_tw kw_663 rfl) ?_
  exact am_vret dM_turnTo_20 rfl (Nat.le_of_ble_eq_true rfl) (Nat.le_of_ble_eq_true rfl) ⟨_, _, rfl, rfl, h⟩
section
variable {l : Launch} {D : va_G} {aC : Nat → ClassId} {ad : Nat → Nat} {own : String} {cc : ByteArray} {nL : Nat} {ret : Option FieldType} {ini : Bool} {tb : List (Nat × Nat × Nat × Nat)} {G : State → (Nat → Prop) → Prop} {rm : Room} {mc ms k n pc idx : Nat} {L : List (Nat × Value)} {st rest : List Value} {I : am_MI} {J : am_MJ} {Q : Option Value → va_W → Prop} {X : String → va_W → Prop}
theorem kV_M_turnTo {a0 : Int32} {K : am_MI → am_MJ → Prop} {X1 : String → am_MI → am_MJ → Prop} (hd : decode cc pc = .ok (.invokevirtual idx, 3)) (hlink : Cond.methodLink own idx yM_turnTo ∈ am_TW) (hcat : (rest.map fun v => v.category).sum ≤ 8) (hR : 2 + 1 ≤ rm.frames ∧ 8 + (2 + 11) + 38 * 2 ≤ rm.locals) (hk : k + 1 ≤ rm.cells ∧ n + 6 ≤ rm.slots) (hm : k ≤ mc ∧ n ≤ ms) (hlt : l.stackTraces = false) (h : w_M_turnTo a0 I J K X1) (kk : ∀ (I1 : am_MI) (J1 : am_MJ), K I1 J1 → am l D aC own cc nL ret ini [] G rm mc ms k n (pc + 3) L rest (am_w ad aC I1 J1) Q (am_lx ad aC X1)) : am l D aC own cc nL ret ini [] G rm mc ms k n pc L (.int a0 :: .ref (ad 28) :: rest) (am_w ad aC I J) Q (am_lx ad aC X1) := by
  refine am_callV 28 6 (As := [.int a0]) (N9 := 1) (t_M_turnTo hlt h) hd rfl (am_w_at ad aC I J (by omega)) rfl hlink (am_tw kw_785 rfl) (am_tw kw_784 rfl) ks_56 (am_tw kw_7 rfl) (by decide +kernel) rfl hcat ⟨rfl, rfl⟩ hR hk (fun E ws1 hx => am_out (fun x hx => nomatch hx) (Nat.add_le_add_right hm.1 1) (Nat.add_le_add_right hm.2 6) hx) ?_
  intro v ws1 hq
  obtain ⟨I1, J1, rfl, rfl, hq⟩ := hq
  exact kk I1 J1 hq
end
def w_M_goes_42 (x1 : Int32) (xs0 : Int32) (I : am_MI) (J : am_MJ) (Q : Int32 → am_MI → am_MJ → Prop) (X : String → am_MI → am_MJ → Prop) : Prop :=
  w_M_turnTo x1 (am_ui I 28 6 xs0) J (fun (I4 : am_MI) (J5 : am_MJ) => Q 1 I4 J5) X
set_option maxRecDepth 20000 in
theorem t_M_goes_42 {l : Launch} {D : va_G} {aC : Nat → ClassId} {ad : Nat → Nat} (hlt : l.stackTraces = false) {x1 : Int32} {xs0 : Int32} {I : am_MI} {J : am_MJ} {Q} {X} (h : w_M_goes_42 x1 xs0 I J Q X) : am l D aC "BubbleBoxModel" cM_goes 2 (some .boolean) false [] am_G0 (am_rm 3) 0 0 0 0 42 [(0, .ref (ad 28)), (1, .int x1)] [.int xs0, .ref (ad 28)] (am_w ad aC I J) (am_li ad aC Q) (am_lx ad aC X) := by
  unfold w_M_goes_42 at h
  refine po_M_left dM_goes_42 (am_tw kw_665 rfl) ?_
  refine am_aload_n 0 dM_goes_45 rfl rfl ?_
  refine am_iload_n 1 dM_goes_46 rfl rfl ?_
  refine kV_M_turnTo dM_goes_47 (am_tw kw_782 rfl) (Nat.le_of_ble_eq_true rfl) ⟨Nat.le_of_ble_eq_true rfl, Nat.le_of_ble_eq_true rfl⟩ ⟨Nat.le_of_ble_eq_true rfl, Nat.le_of_ble_eq_true rfl⟩ ⟨Nat.le_of_ble_eq_true rfl, Nat.le_of_ble_eq_true rfl⟩ hlt h (fun I4 J5 h => ?_)
  refine am_iconst (v := 1) dM_goes_50 (by decide) ?_
  exact am_zret dM_goes_51 rfl (Nat.le_of_ble_eq_true rfl) (Nat.le_of_ble_eq_true rfl) (by decide) ⟨_, _, _, rfl, rfl, h⟩

def w_M_goes_12 (x1 : Int32) (I : am_MI) (J : am_MJ) (Q : Int32 → am_MI → am_MJ → Prop) (X : String → am_MI → am_MJ → Prop) : Prop :=
  (¬ (I 28 7) = 0 → (((I 28 6) ≤ 0 → (w_M_goes_42 x1 (I 28 6) I J Q X)) ∧ (¬ ((I 28 6) ≤ 0) → (w_M_goes_42 x1 ((I 28 6) - (1 : Int32)) I J Q X)))) ∧ ((I 28 7) = 0 → (Q 0 I J))
set_option maxRecDepth 20000 in
theorem t_M_goes_12 {l : Launch} {D : va_G} {aC : Nat → ClassId} {ad : Nat → Nat} (hlt : l.stackTraces = false) {x1 : Int32} {I : am_MI} {J : am_MJ} {Q} {X} (h : w_M_goes_12 x1 I J Q X) : am l D aC "BubbleBoxModel" cM_goes 2 (some .boolean) false [] am_G0 (am_rm 3) 0 0 0 0 12 [(0, .ref (ad 28)), (1, .int x1)] [] (am_w ad aC I J) (am_li ad aC Q) (am_lx ad aC X) := by
  unfold w_M_goes_12 at h
  refine am_aload_n 0 dM_goes_12 rfl rfl ?_
  refine go_M_on dM_goes_13 (am_tw kw_666 rfl) ?_
  refine am_if_ne 21 dM_goes_16 (by decide) (fun hc2 => ?_) (fun hc2 => ?_)
  · replace h := h.1 hc2
    refine am_aload_n 0 dM_goes_21 rfl rfl ?_
    refine am_aload_n 0 dM_goes_22 rfl rfl ?_
    refine go_M_left dM_goes_23 (am_tw kw_665 rfl) ?_
    refine am_if_le 38 dM_goes_26 (by decide) (fun hc3 => ?_) (fun hc3 => ?_)
    · replace h := h.1 hc3
      refine am_aload_n 0 dM_goes_38 rfl rfl ?_
      refine go_M_left dM_goes_39 (am_tw kw_665 rfl) ?_
      exact am_sub [0, 1] rfl (t_M_goes_42 hlt h)
    · replace h := h.2 hc3
      refine am_aload_n 0 dM_goes_29 rfl rfl ?_
      refine go_M_left dM_goes_30 (am_tw kw_665 rfl) ?_
      refine am_iconst (v := 1) dM_goes_33 (by decide) ?_
      refine am_isub dM_goes_34 ?_
      refine am_goto 42 dM_goes_35 (by decide) ?_
      exact am_sub [0, 1] rfl (t_M_goes_42 hlt h)
  · replace h := h.2 hc2
    refine am_iconst (v := 0) dM_goes_19 (by decide) ?_
    exact am_zret dM_goes_20 rfl (Nat.le_of_ble_eq_true rfl) (Nat.le_of_ble_eq_true rfl) (by decide) ⟨_, _, _, rfl, rfl, h⟩

def w_M_goes (a0 : Int32) (I : am_MI) (J : am_MJ) (Q : Int32 → am_MI → am_MJ → Prop) (X : String → am_MI → am_MJ → Prop) : Prop :=
  (¬ (I 28 6) = 0 → (w_M_goes_12 a0 I J Q X)) ∧ ((I 28 6) = 0 → (w_M_goes_12 a0 (am_ui I 28 7 (0 : Int32)) J Q X))
set_option maxRecDepth 20000 in
theorem t_M_goes {l : Launch} {D : va_G} {aC : Nat → ClassId} {ad : Nat → Nat} (hlt : l.stackTraces = false) {a0 : Int32} {I : am_MI} {J : am_MJ} {Q} {X} (h : w_M_goes a0 I J Q X) : am_c l D aC yM_goes (.code yM_goes cM_goes 2 (some .boolean)) (am_rm 3) 0 0 [.ref (ad 28), .int a0] (am_w ad aC I J) (am_li ad aC Q) (am_lx ad aC X) := by
  unfold w_M_goes at h
  refine am_of (ini := false) hlt (by decide +kernel) (Nat.le_of_ble_eq_true rfl) (fun h => nomatch h) ?_
  show am l D aC "BubbleBoxModel" cM_goes 2 (some .boolean) false [] am_G0 (am_rm 3) 0 0 0 0 0 [(0, .ref (ad 28)), (1, .int a0)] [] (am_w ad aC I J) (am_li ad aC Q) (am_lx ad aC X)
  refine am_aload_n 0 dM_goes_0 rfl rfl ?_
  refine go_M_left dM_goes_1 (am_tw kw_665 rfl) ?_
  refine am_if_ne 12 dM_goes_4 (by decide) (fun hc1 => ?_) (fun hc1 => ?_)
  · replace h := h.1 hc1
    exact am_sub [0, 1] rfl (t_M_goes_12 hlt h)
  · replace h := h.2 hc1
    refine am_aload_n 0 dM_goes_7 rfl rfl ?_
    refine am_iconst (v := 0) dM_goes_8 (by decide) ?_
    refine po_M_on dM_goes_9 (am_tw kw_666 rfl) (by decide) ?_
    exact am_sub [0, 1] rfl (t_M_goes_12 hlt h)
section
variable {l : Launch} {D : va_G} {aC : Nat → ClassId} {ad : Nat → Nat} {own : String} {cc : ByteArray} {nL : Nat} {ret : Option FieldType} {ini : Bool} {tb : List (Nat × Nat × Nat × Nat)} {G : State → (Nat → Prop) → Prop} {rm : Room} {mc ms k n pc idx : Nat} {L : List (Nat × Value)} {st rest : List Value} {I : am_MI} {J : am_MJ} {Q : Option Value → va_W → Prop} {X : String → va_W → Prop}
theorem kV_M_goes {a0 : Int32} {K : Int32 → am_MI → am_MJ → Prop} {X1 : String → am_MI → am_MJ → Prop} (hd : decode cc pc = .ok (.invokevirtual idx, 3)) (hlink : Cond.methodLink own idx yM_goes ∈ am_TW) (hcat : (rest.map fun v => v.category).sum ≤ 8) (hR : 3 + 1 ≤ rm.frames ∧ 8 + (2 + 11) + 38 * 3 ≤ rm.locals) (hk : k + 1 ≤ rm.cells ∧ n + 6 ≤ rm.slots) (hm : k ≤ mc ∧ n ≤ ms) (hlt : l.stackTraces = false) (h : w_M_goes a0 I J K X1) (kk : ∀ (r : Int32) (I1 : am_MI) (J1 : am_MJ), K r I1 J1 → am l D aC own cc nL ret ini [] G rm mc ms k n (pc + 3) L (.int r :: rest) (am_w ad aC I1 J1) Q (am_lx ad aC X1)) : am l D aC own cc nL ret ini [] G rm mc ms k n pc L (.int a0 :: .ref (ad 28) :: rest) (am_w ad aC I J) Q (am_lx ad aC X1) := by
  refine am_callV 28 6 (As := [.int a0]) (N9 := 1) (t_M_goes hlt h) hd rfl (am_w_at ad aC I J (by omega)) rfl hlink (am_tw kw_781 rfl) (am_tw kw_780 rfl) ks_55 (am_tw kw_7 rfl) (by decide +kernel) rfl hcat ⟨rfl, rfl⟩ hR hk (fun E ws1 hx => am_out (fun x hx => nomatch hx) (Nat.add_le_add_right hm.1 1) (Nat.add_le_add_right hm.2 6) hx) ?_
  intro v ws1 hq
  obtain ⟨r, I1, J1, rfl, rfl, hq⟩ := hq
  exact kk r I1 J1 hq
end
def w_M_hold_2 (x1 : Int32) (I : am_MI) (J : am_MJ) (Q : am_MI → am_MJ → Prop) (X : String → am_MI → am_MJ → Prop) : Prop :=
  ∀ P2 : Int32 → am_MI → am_MJ → Prop, (∀ (x1 : Int32) (I : am_MI) (J : am_MJ), (((101 : Int32) ≤ x1 → (Q I J)) ∧ (¬ ((101 : Int32) ≤ x1) → (w_M_isUsed x1 I J (fun (r4 : Int32) (I2 : am_MI) (J3 : am_MJ) => vp_in x1 101 ∧ (P2 (x1 + 1) (am_ui I2 37 x1.toNatClampNeg (vp_nar .boolean r4)) J3)) X))) → P2 x1 I J) → P2 x1 I J
set_option maxRecDepth 20000 in
theorem t_M_hold_2 {l : Launch} {D : va_G} {aC : Nat → ClassId} {ad : Nat → Nat} (hlt : l.stackTraces = false) {x1 : Int32} {I : am_MI} {J : am_MJ} {Q} {X} (h : w_M_hold_2 x1 I J Q X) : am l D aC "BubbleBoxModel" cM_hold 2 none false [] am_G0 (am_rm 3) 0 0 0 0 2 [(0, .ref (ad 28)), (1, .int x1)] [] (am_w ad aC I J) (am_lv ad aC Q) (am_lx ad aC X) := by
  unfold w_M_hold_2 at h
  refine h (fun (x1 : Int32) (I : am_MI) (J : am_MJ) => am l D aC "BubbleBoxModel" cM_hold 2 none false [] am_G0 (am_rm 3) 0 0 0 0 2 [(0, .ref (ad 28)), (1, .int x1)] [] (am_w ad aC I J) (am_lv ad aC Q) (am_lx ad aC X)) (fun x1 I J h => ?_)
  refine am_iload_n 1 dM_hold_2 rfl rfl ?_
  refine am_bipush (v := 101) dM_hold_3 (by decide) ?_
  refine am_icmp_ge 25 dM_hold_5 (by decide) (fun hc1 => ?_) (fun hc1 => ?_)
  · replace h := h.1 hc1
    exact am_vret dM_hold_25 rfl (Nat.le_of_ble_eq_true rfl) (Nat.le_of_ble_eq_true rfl) ⟨_, _, rfl, rfl, h⟩
  · replace h := h.2 hc1
    refine am_aload_n 0 dM_hold_8 rfl rfl ?_
    refine go_M_held dM_hold_9 (am_tw kw_676 rfl) ?_
    refine am_iload_n 1 dM_hold_12 rfl rfl ?_
    refine am_aload_n 0 dM_hold_13 rfl rfl ?_
    refine am_iload_n 1 dM_hold_14 rfl rfl ?_
    refine kV_M_isUsed dM_hold_15 (am_tw kw_812 rfl) (Nat.le_of_ble_eq_true rfl) ⟨Nat.le_of_ble_eq_true rfl, Nat.le_of_ble_eq_true rfl⟩ ⟨Nat.le_of_ble_eq_true rfl, Nat.le_of_ble_eq_true rfl⟩ ⟨Nat.le_of_ble_eq_true rfl, Nat.le_of_ble_eq_true rfl⟩ hlt h (fun r4 I2 J3 h => ?_)
    obtain ⟨hi5, h⟩ := h
    refine st_37 hi5 dM_hold_18 ?_
    refine am_iinc (j := 1) (v := x1 + 1) (L2 := [(1, .int (x1 + 1)), (0, .ref (ad 28))]) dM_hold_19 rfl (congrArg (x1 + ·) (by decide : Int32.ofInt (1) = 1)) (Nat.le_of_ble_eq_true rfl) rfl ?_
    refine am_goto 2 dM_hold_22 (by decide) ?_
    exact am_sub [1, 0] rfl h

def w_M_hold (I : am_MI) (J : am_MJ) (Q : am_MI → am_MJ → Prop) (X : String → am_MI → am_MJ → Prop) : Prop :=
  w_M_hold_2 (0 : Int32) I J Q X
set_option maxRecDepth 20000 in
theorem t_M_hold {l : Launch} {D : va_G} {aC : Nat → ClassId} {ad : Nat → Nat} (hlt : l.stackTraces = false) {I : am_MI} {J : am_MJ} {Q} {X} (h : w_M_hold I J Q X) : am_c l D aC yM_hold (.code yM_hold cM_hold 2 none) (am_rm 3) 0 0 [.ref (ad 28)] (am_w ad aC I J) (am_lv ad aC Q) (am_lx ad aC X) := by
  unfold w_M_hold at h
  refine am_of (ini := false) hlt (by decide +kernel) (Nat.le_of_ble_eq_true rfl) (fun h => nomatch h) ?_
  show am l D aC "BubbleBoxModel" cM_hold 2 none false [] am_G0 (am_rm 3) 0 0 0 0 0 [(0, .ref (ad 28))] [] (am_w ad aC I J) (am_lv ad aC Q) (am_lx ad aC X)
  refine am_iconst (v := 0) dM_hold_0 (by decide) ?_
  refine am_istore_n (L2 := [(1, .int 0), (0, .ref (ad 28))]) dM_hold_1 rfl (Nat.le_of_ble_eq_true rfl) rfl ?_
  exact am_sub [1, 0] rfl (t_M_hold_2 hlt h)
section
variable {l : Launch} {D : va_G} {aC : Nat → ClassId} {ad : Nat → Nat} {own : String} {cc : ByteArray} {nL : Nat} {ret : Option FieldType} {ini : Bool} {tb : List (Nat × Nat × Nat × Nat)} {G : State → (Nat → Prop) → Prop} {rm : Room} {mc ms k n pc idx : Nat} {L : List (Nat × Value)} {st rest : List Value} {I : am_MI} {J : am_MJ} {Q : Option Value → va_W → Prop} {X : String → va_W → Prop}
theorem kV_M_hold {K : am_MI → am_MJ → Prop} {X1 : String → am_MI → am_MJ → Prop} (hd : decode cc pc = .ok (.invokevirtual idx, 3)) (hlink : Cond.methodLink own idx yM_hold ∈ am_TW) (hcat : (rest.map fun v => v.category).sum ≤ 8) (hR : 3 + 1 ≤ rm.frames ∧ 8 + (2 + 11) + 38 * 3 ≤ rm.locals) (hk : k + 1 ≤ rm.cells ∧ n + 6 ≤ rm.slots) (hm : k ≤ mc ∧ n ≤ ms) (hlt : l.stackTraces = false) (h : w_M_hold I J K X1) (kk : ∀ (I1 : am_MI) (J1 : am_MJ), K I1 J1 → am l D aC own cc nL ret ini [] G rm mc ms k n (pc + 3) L rest (am_w ad aC I1 J1) Q (am_lx ad aC X1)) : am l D aC own cc nL ret ini [] G rm mc ms k n pc L (.ref (ad 28) :: rest) (am_w ad aC I J) Q (am_lx ad aC X1) := by
  refine am_callV 28 6 (As := []) (N9 := 0) (t_M_hold hlt h) hd rfl (am_w_at ad aC I J (by omega)) rfl hlink (am_tw kw_811 rfl) (am_tw kw_810 rfl) ks_62 (am_tw kw_7 rfl) (by decide +kernel) rfl hcat ⟨rfl, rfl⟩ hR hk (fun E ws1 hx => am_out (fun x hx => nomatch hx) (Nat.add_le_add_right hm.1 1) (Nat.add_le_add_right hm.2 6) hx) ?_
  intro v ws1 hq
  obtain ⟨I1, J1, rfl, rfl, hq⟩ := hq
  exact kk I1 J1 hq
end

def w_M_isFree (a0 : Int32) (I : am_MI) (J : am_MJ) (Q : Int32 → am_MI → am_MJ → Prop) (X : String → am_MI → am_MJ → Prop) : Prop :=
  (a0 ≤ (39 : Int32) → (Q 0 I J)) ∧ (¬ (a0 ≤ (39 : Int32)) → (w_M_isUsed a0 I J (fun (r4 : Int32) (I2 : am_MI) (J3 : am_MJ) => (¬ r4 = 0 → (Q 0 I2 J3)) ∧ (r4 = 0 → (vp_in a0 101 ∧ ((¬ (I2 37 a0.toNatClampNeg) = 0 → (Q 0 I2 J3)) ∧ ((I2 37 a0.toNatClampNeg) = 0 → (Q 1 I2 J3)))))) X))
set_option maxRecDepth 20000 in
theorem t_M_isFree {l : Launch} {D : va_G} {aC : Nat → ClassId} {ad : Nat → Nat} (hlt : l.stackTraces = false) {a0 : Int32} {I : am_MI} {J : am_MJ} {Q} {X} (h : w_M_isFree a0 I J Q X) : am_c l D aC yM_isFree (.code yM_isFree cM_isFree 2 (some .boolean)) (am_rm 3) 0 0 [.ref (ad 28), .int a0] (am_w ad aC I J) (am_li ad aC Q) (am_lx ad aC X) := by
  unfold w_M_isFree at h
  refine am_of (ini := false) hlt (by decide +kernel) (Nat.le_of_ble_eq_true rfl) (fun h => nomatch h) ?_
  show am l D aC "BubbleBoxModel" cM_isFree 2 (some .boolean) false [] am_G0 (am_rm 3) 0 0 0 0 0 [(0, .ref (ad 28)), (1, .int a0)] [] (am_w ad aC I J) (am_li ad aC Q) (am_lx ad aC X)
  refine am_iload_n 1 dM_isFree_0 rfl rfl ?_
  refine am_bipush (v := 39) dM_isFree_1 (by decide) ?_
  refine am_icmp_le 27 dM_isFree_3 (by decide) (fun hc1 => ?_) (fun hc1 => ?_)
  · replace h := h.1 hc1
    refine am_iconst (v := 0) dM_isFree_27 (by decide) ?_
    exact am_zret dM_isFree_28 rfl (Nat.le_of_ble_eq_true rfl) (Nat.le_of_ble_eq_true rfl) (by decide) ⟨_, _, _, rfl, rfl, h⟩
  · replace h := h.2 hc1
    refine am_aload_n 0 dM_isFree_6 rfl rfl ?_
    refine am_iload_n 1 dM_isFree_7 rfl rfl ?_
    refine kV_M_isUsed dM_isFree_8 (am_tw kw_812 rfl) (Nat.le_of_ble_eq_true rfl) ⟨Nat.le_of_ble_eq_true rfl, Nat.le_of_ble_eq_true rfl⟩ ⟨Nat.le_of_ble_eq_true rfl, Nat.le_of_ble_eq_true rfl⟩ ⟨Nat.le_of_ble_eq_true rfl, Nat.le_of_ble_eq_true rfl⟩ hlt h (fun r4 I2 J3 h => ?_)
    refine am_if_ne 27 dM_isFree_11 (by decide) (fun hc5 => ?_) (fun hc5 => ?_)
    · replace h := h.1 hc5
      refine am_iconst (v := 0) dM_isFree_27 (by decide) ?_
      exact am_zret dM_isFree_28 rfl (Nat.le_of_ble_eq_true rfl) (Nat.le_of_ble_eq_true rfl) (by decide) ⟨_, _, _, rfl, rfl, h⟩
    · replace h := h.2 hc5
      refine am_aload_n 0 dM_isFree_14 rfl rfl ?_
      refine go_M_held dM_isFree_15 (am_tw kw_676 rfl) ?_
      refine am_iload_n 1 dM_isFree_18 rfl rfl ?_
      obtain ⟨hi6, h⟩ := h
      refine ld_37 hi6 dM_isFree_19 ?_
      refine am_if_ne 27 dM_isFree_20 (by decide) (fun hc7 => ?_) (fun hc7 => ?_)
      · replace h := h.1 hc7
        refine am_iconst (v := 0) dM_isFree_27 (by decide) ?_
        exact am_zret dM_isFree_28 rfl (Nat.le_of_ble_eq_true rfl) (Nat.le_of_ble_eq_true rfl) (by decide) ⟨_, _, _, rfl, rfl, h⟩
      · replace h := h.2 hc7
        refine am_iconst (v := 1) dM_isFree_23 (by decide) ?_
        refine am_goto 28 dM_isFree_24 (by decide) ?_
        exact am_zret dM_isFree_28 rfl (Nat.le_of_ble_eq_true rfl) (Nat.le_of_ble_eq_true rfl) (by decide) ⟨_, _, _, rfl, rfl, h⟩
section
variable {l : Launch} {D : va_G} {aC : Nat → ClassId} {ad : Nat → Nat} {own : String} {cc : ByteArray} {nL : Nat} {ret : Option FieldType} {ini : Bool} {tb : List (Nat × Nat × Nat × Nat)} {G : State → (Nat → Prop) → Prop} {rm : Room} {mc ms k n pc idx : Nat} {L : List (Nat × Value)} {st rest : List Value} {I : am_MI} {J : am_MJ} {Q : Option Value → va_W → Prop} {X : String → va_W → Prop}
theorem kV_M_isFree {a0 : Int32} {K : Int32 → am_MI → am_MJ → Prop} {X1 : String → am_MI → am_MJ → Prop} (hd : decode cc pc = .ok (.invokevirtual idx, 3)) (hlink : Cond.methodLink own idx yM_isFree ∈ am_TW) (hcat : (rest.map fun v => v.category).sum ≤ 8) (hR : 3 + 1 ≤ rm.frames ∧ 8 + (2 + 11) + 38 * 3 ≤ rm.locals) (hk : k + 1 ≤ rm.cells ∧ n + 6 ≤ rm.slots) (hm : k ≤ mc ∧ n ≤ ms) (hlt : l.stackTraces = false) (h : w_M_isFree a0 I J K X1) (kk : ∀ (r : Int32) (I1 : am_MI) (J1 : am_MJ), K r I1 J1 → am l D aC own cc nL ret ini [] G rm mc ms k n (pc + 3) L (.int r :: rest) (am_w ad aC I1 J1) Q (am_lx ad aC X1)) : am l D aC own cc nL ret ini [] G rm mc ms k n pc L (.int a0 :: .ref (ad 28) :: rest) (am_w ad aC I J) Q (am_lx ad aC X1) := by
  refine am_callV 28 6 (As := [.int a0]) (N9 := 1) (t_M_isFree hlt h) hd rfl (am_w_at ad aC I J (by omega)) rfl hlink (am_tw kw_867 rfl) (am_tw kw_866 rfl) ks_71 (am_tw kw_7 rfl) (by decide +kernel) rfl hcat ⟨rfl, rfl⟩ hR hk (fun E ws1 hx => am_out (fun x hx => nomatch hx) (Nat.add_le_add_right hm.1 1) (Nat.add_le_add_right hm.2 6) hx) ?_
  intro v ws1 hq
  obtain ⟨r, I1, J1, rfl, rfl, hq⟩ := hq
  exact kk r I1 J1 hq
end
def w_M_remove_25 (x1 : Int32) (xs0 : Int32) (I : am_MI) (J : am_MJ) (Q : Int32 → am_MI → am_MJ → Prop) (X : String → am_MI → am_MJ → Prop) : Prop :=
  (((am_ui I 28 0 xs0) 28 0) ≤ 0 → (w_M_shorten x1 (0 : Int32) (am_ui I 28 0 xs0) J (fun (r12 : Int32) (I10 : am_MI) (J11 : am_MJ) => w_M_drop x1 I10 J11 (fun (I13 : am_MI) (J14 : am_MJ) => Q r12 I13 J14) X) X)) ∧ (¬ (((am_ui I 28 0 xs0) 28 0) ≤ 0) → (Q 0 (am_ui I 28 0 xs0) J))
set_option maxRecDepth 20000 in
theorem t_M_remove_25 {l : Launch} {D : va_G} {aC : Nat → ClassId} {ad : Nat → Nat} (hlt : l.stackTraces = false) {x1 : Int32} {xs0 : Int32} {I : am_MI} {J : am_MJ} {Q} {X} (h : w_M_remove_25 x1 xs0 I J Q X) : am l D aC "BubbleBoxModel" cM_remove 3 (some .int) false [] am_G0 (am_rm 3) 0 0 0 0 25 [(0, .ref (ad 28)), (1, .int x1)] [.int xs0, .ref (ad 28)] (am_w ad aC I J) (am_li ad aC Q) (am_lx ad aC X) := by
  unfold w_M_remove_25 at h
  refine po_M_code dM_remove_25 (am_tw kw_659 rfl) ?_
  refine am_aload_n 0 dM_remove_28 rfl rfl ?_
  refine go_M_code dM_remove_29 (am_tw kw_659 rfl) ?_
  refine am_if_le 37 dM_remove_32 (by decide) (fun hc9 => ?_) (fun hc9 => ?_)
  · replace h := h.1 hc9
    refine am_aload_n 0 dM_remove_37 rfl rfl ?_
    refine am_iload_n 1 dM_remove_38 rfl rfl ?_
    refine am_iconst (v := 0) dM_remove_39 (by decide) ?_
    refine kV_M_shorten dM_remove_40 (am_tw kw_885 rfl) (Nat.le_of_ble_eq_true rfl) ⟨Nat.le_of_ble_eq_true rfl, Nat.le_of_ble_eq_true rfl⟩ ⟨Nat.le_of_ble_eq_true rfl, Nat.le_of_ble_eq_true rfl⟩ ⟨Nat.le_of_ble_eq_true rfl, Nat.le_of_ble_eq_true rfl⟩ hlt h (fun r12 I10 J11 h => ?_)
    refine am_istore_n (L2 := [(2, .int r12), (0, .ref (ad 28)), (1, .int x1)]) dM_remove_43 rfl (Nat.le_of_ble_eq_true rfl) rfl ?_
    refine am_aload_n 1 dM_remove_44 rfl rfl ?_
    refine am_iload_n 2 dM_remove_45 rfl rfl ?_
    refine kV_M_drop dM_remove_46 (am_tw kw_655 rfl) (Nat.le_of_ble_eq_true rfl) ⟨Nat.le_of_ble_eq_true rfl, Nat.le_of_ble_eq_true rfl⟩ ⟨Nat.le_of_ble_eq_true rfl, Nat.le_of_ble_eq_true rfl⟩ ⟨Nat.le_of_ble_eq_true rfl, Nat.le_of_ble_eq_true rfl⟩ hlt h (fun I13 J14 h => ?_)
    refine am_iload_n 0 dM_remove_49 rfl rfl ?_
    exact am_iret dM_remove_50 rfl (Nat.le_of_ble_eq_true rfl) (Nat.le_of_ble_eq_true rfl) ⟨_, _, _, rfl, rfl, h⟩
  · replace h := h.2 hc9
    refine am_iconst (v := 0) dM_remove_35 (by decide) ?_
    exact am_iret dM_remove_36 rfl (Nat.le_of_ble_eq_true rfl) (Nat.le_of_ble_eq_true rfl) ⟨_, _, _, rfl, rfl, h⟩

def w_M_remove (a0 : Int32) (I : am_MI) (J : am_MJ) (Q : Int32 → am_MI → am_MJ → Prop) (X : String → am_MI → am_MJ → Prop) : Prop :=
  w_M_isReady I J (fun (r3 : Int32) (I1 : am_MI) (J2 : am_MJ) => (¬ r3 = 0 → (w_M_isFile a0 I1 J2 (fun (r7 : Int32) (I5 : am_MI) (J6 : am_MJ) => (¬ r7 = 0 → (w_M_remove_25 a0 (0 : Int32) I5 J6 Q X)) ∧ (r7 = 0 → (w_M_remove_25 a0 (2 : Int32) I5 J6 Q X))) X)) ∧ (r3 = 0 → (w_M_remove_25 a0 (1 : Int32) I1 J2 Q X))) X
set_option maxRecDepth 20000 in
theorem t_M_remove {l : Launch} {D : va_G} {aC : Nat → ClassId} {ad : Nat → Nat} (hlt : l.stackTraces = false) {a0 : Int32} {I : am_MI} {J : am_MJ} {Q} {X} (h : w_M_remove a0 I J Q X) : am_c l D aC yM_remove (.code yM_remove cM_remove 3 (some .int)) (am_rm 3) 0 0 [.ref (ad 28), .int a0] (am_w ad aC I J) (am_li ad aC Q) (am_lx ad aC X) := by
  unfold w_M_remove at h
  refine am_of (ini := false) hlt (by decide +kernel) (Nat.le_of_ble_eq_true rfl) (fun h => nomatch h) ?_
  show am l D aC "BubbleBoxModel" cM_remove 3 (some .int) false [] am_G0 (am_rm 3) 0 0 0 0 0 [(0, .ref (ad 28)), (1, .int a0)] [] (am_w ad aC I J) (am_li ad aC Q) (am_lx ad aC X)
  refine am_aload_n 0 dM_remove_0 rfl rfl ?_
  refine am_aload_n 0 dM_remove_1 rfl rfl ?_
  refine kV_M_isReady dM_remove_2 (am_tw kw_836 rfl) (Nat.le_of_ble_eq_true rfl) ⟨Nat.le_of_ble_eq_true rfl, Nat.le_of_ble_eq_true rfl⟩ ⟨Nat.le_of_ble_eq_true rfl, Nat.le_of_ble_eq_true rfl⟩ ⟨Nat.le_of_ble_eq_true rfl, Nat.le_of_ble_eq_true rfl⟩ hlt h (fun r3 I1 J2 h => ?_)
  refine am_if_ne 12 dM_remove_5 (by decide) (fun hc4 => ?_) (fun hc4 => ?_)
  · replace h := h.1 hc4
    refine am_aload_n 0 dM_remove_12 rfl rfl ?_
    refine am_iload_n 1 dM_remove_13 rfl rfl ?_
    refine kV_M_isFile dM_remove_14 (am_tw kw_852 rfl) (Nat.le_of_ble_eq_true rfl) ⟨Nat.le_of_ble_eq_true rfl, Nat.le_of_ble_eq_true rfl⟩ ⟨Nat.le_of_ble_eq_true rfl, Nat.le_of_ble_eq_true rfl⟩ ⟨Nat.le_of_ble_eq_true rfl, Nat.le_of_ble_eq_true rfl⟩ hlt h (fun r7 I5 J6 h => ?_)
    refine am_if_ne 24 dM_remove_17 (by decide) (fun hc8 => ?_) (fun hc8 => ?_)
    · replace h := h.1 hc8
      refine am_iconst (v := 0) dM_remove_24 (by decide) ?_
      exact am_sub [0, 1] rfl (t_M_remove_25 hlt h)
    · replace h := h.2 hc8
      refine am_iconst (v := 2) dM_remove_20 (by decide) ?_
      refine am_goto 25 dM_remove_21 (by decide) ?_
      exact am_sub [0, 1] rfl (t_M_remove_25 hlt h)
  · replace h := h.2 hc4
    refine am_iconst (v := 1) dM_remove_8 (by decide) ?_
    refine am_goto 25 dM_remove_9 (by decide) ?_
    exact am_sub [0, 1] rfl (t_M_remove_25 hlt h)
section
variable {l : Launch} {D : va_G} {aC : Nat → ClassId} {ad : Nat → Nat} {own : String} {cc : ByteArray} {nL : Nat} {ret : Option FieldType} {ini : Bool} {tb : List (Nat × Nat × Nat × Nat)} {G : State → (Nat → Prop) → Prop} {rm : Room} {mc ms k n pc idx : Nat} {L : List (Nat × Value)} {st rest : List Value} {I : am_MI} {J : am_MJ} {Q : Option Value → va_W → Prop} {X : String → va_W → Prop}
theorem kV_M_remove {a0 : Int32} {K : Int32 → am_MI → am_MJ → Prop} {X1 : String → am_MI → am_MJ → Prop} (hd : decode cc pc = .ok (.invokevirtual idx, 3)) (hlink : Cond.methodLink own idx yM_remove ∈ am_TW) (hcat : (rest.map fun v => v.category).sum ≤ 8) (hR : 3 + 1 ≤ rm.frames ∧ 8 + (3 + 11) + 38 * 3 ≤ rm.locals) (hk : k + 1 ≤ rm.cells ∧ n + 6 ≤ rm.slots) (hm : k ≤ mc ∧ n ≤ ms) (hlt : l.stackTraces = false) (h : w_M_remove a0 I J K X1) (kk : ∀ (r : Int32) (I1 : am_MI) (J1 : am_MJ), K r I1 J1 → am l D aC own cc nL ret ini [] G rm mc ms k n (pc + 3) L (.int r :: rest) (am_w ad aC I1 J1) Q (am_lx ad aC X1)) : am l D aC own cc nL ret ini [] G rm mc ms k n pc L (.int a0 :: .ref (ad 28) :: rest) (am_w ad aC I J) Q (am_lx ad aC X1) := by
  refine am_callV 28 6 (As := [.int a0]) (N9 := 1) (t_M_remove hlt h) hd rfl (am_w_at ad aC I J (by omega)) rfl hlink (am_tw kw_892 rfl) (am_tw kw_890 rfl) (am_tw kw_891 rfl) (am_tw kw_7 rfl) (by decide +kernel) rfl hcat ⟨rfl, rfl⟩ hR hk (fun E ws1 hx => am_out (fun x hx => nomatch hx) (Nat.add_le_add_right hm.1 1) (Nat.add_le_add_right hm.2 6) hx) ?_
  intro v ws1 hq
  obtain ⟨r, I1, J1, rfl, rfl, hq⟩ := hq
  exact kk r I1 J1 hq
end
def w_M_truncate_39 (x1 : Int32) (x2 : Int32) (xs0 : Int32) (I : am_MI) (J : am_MJ) (Q : Int32 → am_MI → am_MJ → Prop) (X : String → am_MI → am_MJ → Prop) : Prop :=
  (((am_ui I 28 0 xs0) 28 0) ≤ 0 → (w_M_shorten x1 x2 (am_ui I 28 0 xs0) J (fun (r12 : Int32) (I10 : am_MI) (J11 : am_MJ) => Q r12 I10 J11) X)) ∧ (¬ (((am_ui I 28 0 xs0) 28 0) ≤ 0) → (Q 0 (am_ui I 28 0 xs0) J))
set_option maxRecDepth 20000 in
theorem t_M_truncate_39 {l : Launch} {D : va_G} {aC : Nat → ClassId} {ad : Nat → Nat} (hlt : l.stackTraces = false) {x1 : Int32} {x2 : Int32} {xs0 : Int32} {I : am_MI} {J : am_MJ} {Q} {X} (h : w_M_truncate_39 x1 x2 xs0 I J Q X) : am l D aC "BubbleBoxModel" cM_truncate 3 (some .int) false [] am_G0 (am_rm 3) 0 0 0 0 39 [(0, .ref (ad 28)), (1, .int x1), (2, .int x2)] [.int xs0, .ref (ad 28)] (am_w ad aC I J) (am_li ad aC Q) (am_lx ad aC X) := by
  unfold w_M_truncate_39 at h
  refine po_M_code dM_truncate_39 (am_tw kw_659 rfl) ?_
  refine am_aload_n 0 dM_truncate_42 rfl rfl ?_
  refine go_M_code dM_truncate_43 (am_tw kw_659 rfl) ?_
  refine am_if_le 53 dM_truncate_46 (by decide) (fun hc9 => ?_) (fun hc9 => ?_)
  · replace h := h.1 hc9
    refine am_aload_n 0 dM_truncate_53 rfl rfl ?_
    refine am_iload_n 1 dM_truncate_54 rfl rfl ?_
    refine am_iload_n 2 dM_truncate_55 rfl rfl ?_
    refine kV_M_shorten dM_truncate_56 (am_tw kw_885 rfl) (Nat.le_of_ble_eq_true rfl) ⟨Nat.le_of_ble_eq_true rfl, Nat.le_of_ble_eq_true rfl⟩ ⟨Nat.le_of_ble_eq_true rfl, Nat.le_of_ble_eq_true rfl⟩ ⟨Nat.le_of_ble_eq_true rfl, Nat.le_of_ble_eq_true rfl⟩ hlt h (fun r12 I10 J11 h => ?_)
    exact am_iret dM_truncate_59 rfl (Nat.le_of_ble_eq_true rfl) (Nat.le_of_ble_eq_true rfl) ⟨_, _, _, rfl, rfl, h⟩
  · replace h := h.2 hc9
    refine am_iconst (v := 0) dM_truncate_49 (by decide) ?_
    refine am_goto 59 dM_truncate_50 (by decide) ?_
    exact am_iret dM_truncate_59 rfl (Nat.le_of_ble_eq_true rfl) (Nat.le_of_ble_eq_true rfl) ⟨_, _, _, rfl, rfl, h⟩

def w_M_truncate_34 (x1 : Int32) (x2 : Int32) (I : am_MI) (J : am_MJ) (Q : Int32 → am_MI → am_MJ → Prop) (X : String → am_MI → am_MJ → Prop) : Prop :=
  w_M_truncate_39 x1 x2 (2 : Int32) I J Q X
set_option maxRecDepth 20000 in
theorem t_M_truncate_34 {l : Launch} {D : va_G} {aC : Nat → ClassId} {ad : Nat → Nat} (hlt : l.stackTraces = false) {x1 : Int32} {x2 : Int32} {I : am_MI} {J : am_MJ} {Q} {X} (h : w_M_truncate_34 x1 x2 I J Q X) : am l D aC "BubbleBoxModel" cM_truncate 3 (some .int) false [] am_G0 (am_rm 3) 0 0 0 0 34 [(0, .ref (ad 28)), (1, .int x1), (2, .int x2)] [.ref (ad 28)] (am_w ad aC I J) (am_li ad aC Q) (am_lx ad aC X) := by
  unfold w_M_truncate_34 at h
  refine am_iconst (v := 2) dM_truncate_34 (by decide) ?_
  refine am_goto 39 dM_truncate_35 (by decide) ?_
  exact am_sub [0, 1, 2] rfl (t_M_truncate_39 hlt h)

def w_M_truncate (a0 : Int32) (a1 : Int32) (I : am_MI) (J : am_MJ) (Q : Int32 → am_MI → am_MJ → Prop) (X : String → am_MI → am_MJ → Prop) : Prop :=
  w_M_isReady I J (fun (r3 : Int32) (I1 : am_MI) (J2 : am_MJ) => (¬ r3 = 0 → (w_M_isFile a0 I1 J2 (fun (r7 : Int32) (I5 : am_MI) (J6 : am_MJ) => (r7 = 0 → (w_M_truncate_34 a0 a1 I5 J6 Q X)) ∧ (¬ (r7 = 0) → ((a1 < 0 → (w_M_truncate_34 a0 a1 I5 J6 Q X)) ∧ (¬ (a1 < 0) → (vp_in a0 8 ∧ ((a1 ≤ (I5 32 a0.toNatClampNeg) → (w_M_truncate_39 a0 a1 (0 : Int32) I5 J6 Q X)) ∧ (¬ (a1 ≤ (I5 32 a0.toNatClampNeg)) → (w_M_truncate_34 a0 a1 I5 J6 Q X)))))))) X)) ∧ (r3 = 0 → (w_M_truncate_39 a0 a1 (1 : Int32) I1 J2 Q X))) X
set_option maxRecDepth 20000 in
theorem t_M_truncate {l : Launch} {D : va_G} {aC : Nat → ClassId} {ad : Nat → Nat} (hlt : l.stackTraces = false) {a0 : Int32} {a1 : Int32} {I : am_MI} {J : am_MJ} {Q} {X} (h : w_M_truncate a0 a1 I J Q X) : am_c l D aC yM_truncate (.code yM_truncate cM_truncate 3 (some .int)) (am_rm 3) 0 0 [.ref (ad 28), .int a0, .int a1] (am_w ad aC I J) (am_li ad aC Q) (am_lx ad aC X) := by
  unfold w_M_truncate at h
  refine am_of (ini := false) hlt (by decide +kernel) (Nat.le_of_ble_eq_true rfl) (fun h => nomatch h) ?_
  show am l D aC "BubbleBoxModel" cM_truncate 3 (some .int) false [] am_G0 (am_rm 3) 0 0 0 0 0 [(0, .ref (ad 28)), (1, .int a0), (2, .int a1)] [] (am_w ad aC I J) (am_li ad aC Q) (am_lx ad aC X)
  refine am_aload_n 0 dM_truncate_0 rfl rfl ?_
  refine am_aload_n 0 dM_truncate_1 rfl rfl ?_
  refine kV_M_isReady dM_truncate_2 (am_tw kw_836 rfl) (Nat.le_of_ble_eq_true rfl) ⟨Nat.le_of_ble_eq_true rfl, Nat.le_of_ble_eq_true rfl⟩ ⟨Nat.le_of_ble_eq_true rfl, Nat.le_of_ble_eq_true rfl⟩ ⟨Nat.le_of_ble_eq_true rfl, Nat.le_of_ble_eq_true rfl⟩ hlt h (fun r3 I1 J2 h => ?_)
  refine am_if_ne 12 dM_truncate_5 (by decide) (fun hc4 => ?_) (fun hc4 => ?_)
  · replace h := h.1 hc4
    refine am_aload_n 0 dM_truncate_12 rfl rfl ?_
    refine am_iload_n 1 dM_truncate_13 rfl rfl ?_
    refine kV_M_isFile dM_truncate_14 (am_tw kw_852 rfl) (Nat.le_of_ble_eq_true rfl) ⟨Nat.le_of_ble_eq_true rfl, Nat.le_of_ble_eq_true rfl⟩ ⟨Nat.le_of_ble_eq_true rfl, Nat.le_of_ble_eq_true rfl⟩ ⟨Nat.le_of_ble_eq_true rfl, Nat.le_of_ble_eq_true rfl⟩ hlt h (fun r7 I5 J6 h => ?_)
    refine am_if_eq 34 dM_truncate_17 (by decide) (fun hc8 => ?_) (fun hc8 => ?_)
    · replace h := h.1 hc8
      exact am_sub [0, 1, 2] rfl (t_M_truncate_34 hlt h)
    · replace h := h.2 hc8
      refine am_iload_n 2 dM_truncate_20 rfl rfl ?_
      refine am_if_lt 34 dM_truncate_21 (by decide) (fun hc13 => ?_) (fun hc13 => ?_)
      · replace h := h.1 hc13
        exact am_sub [0, 1, 2] rfl (t_M_truncate_34 hlt h)
      · replace h := h.2 hc13
        refine am_iload_n 2 dM_truncate_24 rfl rfl ?_
        refine am_aload_n 0 dM_truncate_25 rfl rfl ?_
        refine go_M_length dM_truncate_26 (am_tw kw_669 rfl) ?_
        refine am_iload_n 1 dM_truncate_29 rfl rfl ?_
        obtain ⟨hi14, h⟩ := h
        refine ld_32 hi14 dM_truncate_30 ?_
        refine am_icmp_le 38 dM_truncate_31 (by decide) (fun hc15 => ?_) (fun hc15 => ?_)
        · replace h := h.1 hc15
          refine am_iconst (v := 0) dM_truncate_38 (by decide) ?_
          exact am_sub [0, 1, 2] rfl (t_M_truncate_39 hlt h)
        · replace h := h.2 hc15
          exact am_sub [0, 1, 2] rfl (t_M_truncate_34 hlt h)
  · replace h := h.2 hc4
    refine am_iconst (v := 1) dM_truncate_8 (by decide) ?_
    refine am_goto 39 dM_truncate_9 (by decide) ?_
    exact am_sub [0, 1, 2] rfl (t_M_truncate_39 hlt h)
section
variable {l : Launch} {D : va_G} {aC : Nat → ClassId} {ad : Nat → Nat} {own : String} {cc : ByteArray} {nL : Nat} {ret : Option FieldType} {ini : Bool} {tb : List (Nat × Nat × Nat × Nat)} {G : State → (Nat → Prop) → Prop} {rm : Room} {mc ms k n pc idx : Nat} {L : List (Nat × Value)} {st rest : List Value} {I : am_MI} {J : am_MJ} {Q : Option Value → va_W → Prop} {X : String → va_W → Prop}
theorem kV_M_truncate {a0 : Int32} {a1 : Int32} {K : Int32 → am_MI → am_MJ → Prop} {X1 : String → am_MI → am_MJ → Prop} (hd : decode cc pc = .ok (.invokevirtual idx, 3)) (hlink : Cond.methodLink own idx yM_truncate ∈ am_TW) (hcat : (rest.map fun v => v.category).sum ≤ 8) (hR : 3 + 1 ≤ rm.frames ∧ 8 + (3 + 11) + 38 * 3 ≤ rm.locals) (hk : k + 1 ≤ rm.cells ∧ n + 6 ≤ rm.slots) (hm : k ≤ mc ∧ n ≤ ms) (hlt : l.stackTraces = false) (h : w_M_truncate a0 a1 I J K X1) (kk : ∀ (r : Int32) (I1 : am_MI) (J1 : am_MJ), K r I1 J1 → am l D aC own cc nL ret ini [] G rm mc ms k n (pc + 3) L (.int r :: rest) (am_w ad aC I1 J1) Q (am_lx ad aC X1)) : am l D aC own cc nL ret ini [] G rm mc ms k n pc L (.int a1 :: .int a0 :: .ref (ad 28) :: rest) (am_w ad aC I J) Q (am_lx ad aC X1) := by
  refine am_callV 28 6 (As := [.int a0, .int a1]) (N9 := 2) (t_M_truncate hlt h) hd rfl (am_w_at ad aC I J (by omega)) rfl hlink (am_tw kw_884 rfl) (am_tw kw_882 rfl) (am_tw kw_883 rfl) (am_tw kw_7 rfl) (by decide +kernel) rfl hcat ⟨rfl, rfl⟩ hR hk (fun E ws1 hx => am_out (fun x hx => nomatch hx) (Nat.add_le_add_right hm.1 1) (Nat.add_le_add_right hm.2 6) hx) ?_
  intro v ws1 hq
  obtain ⟨r, I1, J1, rfl, rfl, hq⟩ := hq
  exact kk r I1 J1 hq
end
def w_M_free_20 (x1 : Int32) (x2 : Int32) (I : am_MI) (J : am_MJ) (Q : Int32 → am_MI → am_MJ → Prop) (X : String → am_MI → am_MJ → Prop) : Prop :=
  ∀ P20 : Int32 → Int32 → am_MI → am_MJ → Prop, (∀ (x1 : Int32) (x2 : Int32) (I : am_MI) (J : am_MJ), (((101 : Int32) ≤ x2 → (Q x1 I J)) ∧ (¬ ((101 : Int32) ≤ x2) → ((¬ (I 28 0) = 0 → (Q x1 I J)) ∧ ((I 28 0) = 0 → (w_M_isFree x2 I J (fun (r9 : Int32) (I7 : am_MI) (J8 : am_MJ) => (r9 = 0 → (P20 x1 (x2 + 1) I7 J8)) ∧ (¬ (r9 = 0) → (P20 (x1 + (1 : Int32)) (x2 + 1) I7 J8))) X))))) → P20 x1 x2 I J) → P20 x1 x2 I J
set_option maxRecDepth 20000 in
theorem t_M_free_20 {l : Launch} {D : va_G} {aC : Nat → ClassId} {ad : Nat → Nat} (hlt : l.stackTraces = false) {x1 : Int32} {x2 : Int32} {I : am_MI} {J : am_MJ} {Q} {X} (h : w_M_free_20 x1 x2 I J Q X) : am l D aC "BubbleBoxModel" cM_free 3 (some .int) false [] am_G0 (am_rm 4) 0 0 0 0 20 [(0, .ref (ad 28)), (1, .int x1), (2, .int x2)] [] (am_w ad aC I J) (am_li ad aC Q) (am_lx ad aC X) := by
  unfold w_M_free_20 at h
  refine h (fun (x1 : Int32) (x2 : Int32) (I : am_MI) (J : am_MJ) => am l D aC "BubbleBoxModel" cM_free 3 (some .int) false [] am_G0 (am_rm 4) 0 0 0 0 20 [(0, .ref (ad 28)), (1, .int x1), (2, .int x2)] [] (am_w ad aC I J) (am_li ad aC Q) (am_lx ad aC X)) (fun x1 x2 I J h => ?_)
  refine am_iload_n 2 dM_free_20 rfl rfl ?_
  refine am_bipush (v := 101) dM_free_21 (by decide) ?_
  refine am_icmp_ge 55 dM_free_23 (by decide) (fun hc5 => ?_) (fun hc5 => ?_)
  · replace h := h.1 hc5
    refine am_iload_n 1 dM_free_55 rfl rfl ?_
    exact am_iret dM_free_56 rfl (Nat.le_of_ble_eq_true rfl) (Nat.le_of_ble_eq_true rfl) ⟨_, _, _, rfl, rfl, h⟩
  · replace h := h.2 hc5
    refine am_aload_n 0 dM_free_26 rfl rfl ?_
    refine go_M_code dM_free_27 (am_tw kw_659 rfl) ?_
    refine am_if_ne 55 dM_free_30 (by decide) (fun hc6 => ?_) (fun hc6 => ?_)
    · replace h := h.1 hc6
      refine am_iload_n 1 dM_free_55 rfl rfl ?_
      exact am_iret dM_free_56 rfl (Nat.le_of_ble_eq_true rfl) (Nat.le_of_ble_eq_true rfl) ⟨_, _, _, rfl, rfl, h⟩
    · replace h := h.2 hc6
      refine am_aload_n 0 dM_free_33 rfl rfl ?_
      refine am_iload_n 2 dM_free_34 rfl rfl ?_
      refine kV_M_isFree dM_free_35 (am_tw kw_864 rfl) (Nat.le_of_ble_eq_true rfl) ⟨Nat.le_of_ble_eq_true rfl, Nat.le_of_ble_eq_true rfl⟩ ⟨Nat.le_of_ble_eq_true rfl, Nat.le_of_ble_eq_true rfl⟩ ⟨Nat.le_of_ble_eq_true rfl, Nat.le_of_ble_eq_true rfl⟩ hlt h (fun r9 I7 J8 h => ?_)
      refine am_if_eq 47 dM_free_38 (by decide) (fun hc10 => ?_) (fun hc10 => ?_)
      · replace h := h.1 hc10
        refine am_iload_n 1 dM_free_47 rfl rfl ?_
        refine am_istore_n (L2 := [(1, .int x1), (0, .ref (ad 28)), (2, .int x2)]) dM_free_48 rfl (Nat.le_of_ble_eq_true rfl) rfl ?_
        refine am_iinc (j := 2) (v := x2 + 1) (L2 := [(2, .int (x2 + 1)), (1, .int x1), (0, .ref (ad 28))]) dM_free_49 rfl (congrArg (x2 + ·) (by decide : Int32.ofInt (1) = 1)) (Nat.le_of_ble_eq_true rfl) rfl ?_
        refine am_goto 20 dM_free_52 (by decide) ?_
        exact am_sub [2, 1, 0] rfl h
      · replace h := h.2 hc10
        refine am_iload_n 1 dM_free_41 rfl rfl ?_
        refine am_iconst (v := 1) dM_free_42 (by decide) ?_
        refine am_iadd dM_free_43 ?_
        refine am_goto 48 dM_free_44 (by decide) ?_
        refine am_istore_n (L2 := [(1, .int (x1 + (1 : Int32))), (0, .ref (ad 28)), (2, .int x2)]) dM_free_48 rfl (Nat.le_of_ble_eq_true rfl) rfl ?_
        refine am_iinc (j := 2) (v := x2 + 1) (L2 := [(2, .int (x2 + 1)), (1, .int (x1 + (1 : Int32))), (0, .ref (ad 28))]) dM_free_49 rfl (congrArg (x2 + ·) (by decide : Int32.ofInt (1) = 1)) (Nat.le_of_ble_eq_true rfl) rfl ?_
        refine am_goto 20 dM_free_52 (by decide) ?_
        exact am_sub [2, 1, 0] rfl h

def w_M_free_13 (xs0 : Int32) (I : am_MI) (J : am_MJ) (Q : Int32 → am_MI → am_MJ → Prop) (X : String → am_MI → am_MJ → Prop) : Prop :=
  w_M_free_20 (0 : Int32) (0 : Int32) (am_ui I 28 0 xs0) J Q X
set_option maxRecDepth 20000 in
theorem t_M_free_13 {l : Launch} {D : va_G} {aC : Nat → ClassId} {ad : Nat → Nat} (hlt : l.stackTraces = false) {xs0 : Int32} {I : am_MI} {J : am_MJ} {Q} {X} (h : w_M_free_13 xs0 I J Q X) : am l D aC "BubbleBoxModel" cM_free 3 (some .int) false [] am_G0 (am_rm 4) 0 0 0 0 13 [(0, .ref (ad 28))] [.int xs0, .ref (ad 28)] (am_w ad aC I J) (am_li ad aC Q) (am_lx ad aC X) := by
  unfold w_M_free_13 at h
  refine po_M_code dM_free_13 (am_tw kw_659 rfl) ?_
  refine am_iconst (v := 0) dM_free_16 (by decide) ?_
  refine am_istore_n (L2 := [(1, .int 0), (0, .ref (ad 28))]) dM_free_17 rfl (Nat.le_of_ble_eq_true rfl) rfl ?_
  refine am_iconst (v := 0) dM_free_18 (by decide) ?_
  refine am_istore_n (L2 := [(2, .int 0), (1, .int 0), (0, .ref (ad 28))]) dM_free_19 rfl (Nat.le_of_ble_eq_true rfl) rfl ?_
  exact am_sub [2, 1, 0] rfl (t_M_free_20 hlt h)

def w_M_free (I : am_MI) (J : am_MJ) (Q : Int32 → am_MI → am_MJ → Prop) (X : String → am_MI → am_MJ → Prop) : Prop :=
  w_M_isReady I J (fun (r3 : Int32) (I1 : am_MI) (J2 : am_MJ) => (r3 = 0 → (w_M_free_13 (1 : Int32) I1 J2 Q X)) ∧ (¬ (r3 = 0) → (w_M_free_13 (0 : Int32) I1 J2 Q X))) X
set_option maxRecDepth 20000 in
theorem t_M_free {l : Launch} {D : va_G} {aC : Nat → ClassId} {ad : Nat → Nat} (hlt : l.stackTraces = false) {I : am_MI} {J : am_MJ} {Q} {X} (h : w_M_free I J Q X) : am_c l D aC yM_free (.code yM_free cM_free 3 (some .int)) (am_rm 4) 0 0 [.ref (ad 28)] (am_w ad aC I J) (am_li ad aC Q) (am_lx ad aC X) := by
  unfold w_M_free at h
  refine am_of (ini := false) hlt (by decide +kernel) (Nat.le_of_ble_eq_true rfl) (fun h => nomatch h) ?_
  show am l D aC "BubbleBoxModel" cM_free 3 (some .int) false [] am_G0 (am_rm 4) 0 0 0 0 0 [(0, .ref (ad 28))] [] (am_w ad aC I J) (am_li ad aC Q) (am_lx ad aC X)
  refine am_aload_n 0 dM_free_0 rfl rfl ?_
  refine am_aload_n 0 dM_free_1 rfl rfl ?_
  refine kV_M_isReady dM_free_2 (am_tw kw_836 rfl) (Nat.le_of_ble_eq_true rfl) ⟨Nat.le_of_ble_eq_true rfl, Nat.le_of_ble_eq_true rfl⟩ ⟨Nat.le_of_ble_eq_true rfl, Nat.le_of_ble_eq_true rfl⟩ ⟨Nat.le_of_ble_eq_true rfl, Nat.le_of_ble_eq_true rfl⟩ hlt h (fun r3 I1 J2 h => ?_)
  refine am_if_eq 12 dM_free_5 (by decide) (fun hc4 => ?_) (fun hc4 => ?_)
  · replace h := h.1 hc4
    refine am_iconst (v := 1) dM_free_12 (by decide) ?_
    exact am_sub [0] rfl (t_M_free_13 hlt h)
  · replace h := h.2 hc4
    refine am_iconst (v := 0) dM_free_8 (by decide) ?_
    refine am_goto 13 dM_free_9 (by decide) ?_
    exact am_sub [0] rfl (t_M_free_13 hlt h)
section
variable {l : Launch} {D : va_G} {aC : Nat → ClassId} {ad : Nat → Nat} {own : String} {cc : ByteArray} {nL : Nat} {ret : Option FieldType} {ini : Bool} {tb : List (Nat × Nat × Nat × Nat)} {G : State → (Nat → Prop) → Prop} {rm : Room} {mc ms k n pc idx : Nat} {L : List (Nat × Value)} {st rest : List Value} {I : am_MI} {J : am_MJ} {Q : Option Value → va_W → Prop} {X : String → va_W → Prop}
theorem kV_M_free {K : Int32 → am_MI → am_MJ → Prop} {X1 : String → am_MI → am_MJ → Prop} (hd : decode cc pc = .ok (.invokevirtual idx, 3)) (hlink : Cond.methodLink own idx yM_free ∈ am_TW) (hcat : (rest.map fun v => v.category).sum ≤ 8) (hR : 4 + 1 ≤ rm.frames ∧ 8 + (3 + 11) + 38 * 4 ≤ rm.locals) (hk : k + 1 ≤ rm.cells ∧ n + 6 ≤ rm.slots) (hm : k ≤ mc ∧ n ≤ ms) (hlt : l.stackTraces = false) (h : w_M_free I J K X1) (kk : ∀ (r : Int32) (I1 : am_MI) (J1 : am_MJ), K r I1 J1 → am l D aC own cc nL ret ini [] G rm mc ms k n (pc + 3) L (.int r :: rest) (am_w ad aC I1 J1) Q (am_lx ad aC X1)) : am l D aC own cc nL ret ini [] G rm mc ms k n pc L (.ref (ad 28) :: rest) (am_w ad aC I J) Q (am_lx ad aC X1) := by
  refine am_callV 28 6 (As := []) (N9 := 0) (t_M_free hlt h) hd rfl (am_w_at ad aC I J (by omega)) rfl hlink (am_tw kw_900 rfl) (am_tw kw_898 rfl) (am_tw kw_899 rfl) (am_tw kw_7 rfl) (by decide +kernel) rfl hcat ⟨rfl, rfl⟩ hR hk (fun E ws1 hx => am_out (fun x hx => nomatch hx) (Nat.add_le_add_right hm.1 1) (Nat.add_le_add_right hm.2 6) hx) ?_
  intro v ws1 hq
  obtain ⟨r, I1, J1, rfl, rfl, hq⟩ := hq
  exact kk r I1 J1 hq
end
def w_M_leastFree_3 (x1 : Int32) (I : am_MI) (J : am_MJ) (Q : Int32 → am_MI → am_MJ → Prop) (X : String → am_MI → am_MJ → Prop) : Prop :=
  ∀ P3 : Int32 → am_MI → am_MJ → Prop, (∀ (x1 : Int32) (I : am_MI) (J : am_MJ), (((101 : Int32) ≤ x1 → (Q (-1) I J)) ∧ (¬ ((101 : Int32) ≤ x1) → (w_M_isFree x1 I J (fun (r4 : Int32) (I2 : am_MI) (J3 : am_MJ) => (r4 = 0 → (P3 (x1 + 1) I2 J3)) ∧ (¬ (r4 = 0) → (Q x1 I2 J3))) X))) → P3 x1 I J) → P3 x1 I J
set_option maxRecDepth 20000 in
theorem t_M_leastFree_3 {l : Launch} {D : va_G} {aC : Nat → ClassId} {ad : Nat → Nat} (hlt : l.stackTraces = false) {x1 : Int32} {I : am_MI} {J : am_MJ} {Q} {X} (h : w_M_leastFree_3 x1 I J Q X) : am l D aC "BubbleBoxModel" cM_leastFree 2 (some .int) false [] am_G0 (am_rm 4) 0 0 0 0 3 [(0, .ref (ad 28)), (1, .int x1)] [] (am_w ad aC I J) (am_li ad aC Q) (am_lx ad aC X) := by
  unfold w_M_leastFree_3 at h
  refine h (fun (x1 : Int32) (I : am_MI) (J : am_MJ) => am l D aC "BubbleBoxModel" cM_leastFree 2 (some .int) false [] am_G0 (am_rm 4) 0 0 0 0 3 [(0, .ref (ad 28)), (1, .int x1)] [] (am_w ad aC I J) (am_li ad aC Q) (am_lx ad aC X)) (fun x1 I J h => ?_)
  refine am_iload_n 1 dM_leastFree_3 rfl rfl ?_
  refine am_bipush (v := 101) dM_leastFree_4 (by decide) ?_
  refine am_icmp_ge 25 dM_leastFree_6 (by decide) (fun hc1 => ?_) (fun hc1 => ?_)
  · replace h := h.1 hc1
    refine am_iconst (v := (-1)) dM_leastFree_25 (by decide) ?_
    exact am_iret dM_leastFree_26 rfl (Nat.le_of_ble_eq_true rfl) (Nat.le_of_ble_eq_true rfl) ⟨_, _, _, rfl, rfl, h⟩
  · replace h := h.2 hc1
    refine am_aload_n 0 dM_leastFree_9 rfl rfl ?_
    refine am_iload_n 1 dM_leastFree_10 rfl rfl ?_
    refine kV_M_isFree dM_leastFree_11 (am_tw kw_864 rfl) (Nat.le_of_ble_eq_true rfl) ⟨Nat.le_of_ble_eq_true rfl, Nat.le_of_ble_eq_true rfl⟩ ⟨Nat.le_of_ble_eq_true rfl, Nat.le_of_ble_eq_true rfl⟩ ⟨Nat.le_of_ble_eq_true rfl, Nat.le_of_ble_eq_true rfl⟩ hlt h (fun r4 I2 J3 h => ?_)
    refine am_if_eq 19 dM_leastFree_14 (by decide) (fun hc5 => ?_) (fun hc5 => ?_)
    · replace h := h.1 hc5
      refine am_iinc (j := 1) (v := x1 + 1) (L2 := [(1, .int (x1 + 1)), (0, .ref (ad 28))]) dM_leastFree_19 rfl (congrArg (x1 + ·) (by decide : Int32.ofInt (1) = 1)) (Nat.le_of_ble_eq_true rfl) rfl ?_
      refine am_goto 3 dM_leastFree_22 (by decide) ?_
      exact am_sub [1, 0] rfl h
    · replace h := h.2 hc5
      refine am_iload_n 1 dM_leastFree_17 rfl rfl ?_
      exact am_iret dM_leastFree_18 rfl (Nat.le_of_ble_eq_true rfl) (Nat.le_of_ble_eq_true rfl) ⟨_, _, _, rfl, rfl, h⟩

def w_M_leastFree (I : am_MI) (J : am_MJ) (Q : Int32 → am_MI → am_MJ → Prop) (X : String → am_MI → am_MJ → Prop) : Prop :=
  w_M_leastFree_3 (40 : Int32) I J Q X
set_option maxRecDepth 20000 in
theorem t_M_leastFree {l : Launch} {D : va_G} {aC : Nat → ClassId} {ad : Nat → Nat} (hlt : l.stackTraces = false) {I : am_MI} {J : am_MJ} {Q} {X} (h : w_M_leastFree I J Q X) : am_c l D aC yM_leastFree (.code yM_leastFree cM_leastFree 2 (some .int)) (am_rm 4) 0 0 [.ref (ad 28)] (am_w ad aC I J) (am_li ad aC Q) (am_lx ad aC X) := by
  unfold w_M_leastFree at h
  refine am_of (ini := false) hlt (by decide +kernel) (Nat.le_of_ble_eq_true rfl) (fun h => nomatch h) ?_
  show am l D aC "BubbleBoxModel" cM_leastFree 2 (some .int) false [] am_G0 (am_rm 4) 0 0 0 0 0 [(0, .ref (ad 28))] [] (am_w ad aC I J) (am_li ad aC Q) (am_lx ad aC X)
  refine am_bipush (v := 40) dM_leastFree_0 (by decide) ?_
  refine am_istore_n (L2 := [(1, .int 40), (0, .ref (ad 28))]) dM_leastFree_2 rfl (Nat.le_of_ble_eq_true rfl) rfl ?_
  exact am_sub [1, 0] rfl (t_M_leastFree_3 hlt h)
section
variable {l : Launch} {D : va_G} {aC : Nat → ClassId} {ad : Nat → Nat} {own : String} {cc : ByteArray} {nL : Nat} {ret : Option FieldType} {ini : Bool} {tb : List (Nat × Nat × Nat × Nat)} {G : State → (Nat → Prop) → Prop} {rm : Room} {mc ms k n pc idx : Nat} {L : List (Nat × Value)} {st rest : List Value} {I : am_MI} {J : am_MJ} {Q : Option Value → va_W → Prop} {X : String → va_W → Prop}
theorem kV_M_leastFree {K : Int32 → am_MI → am_MJ → Prop} {X1 : String → am_MI → am_MJ → Prop} (hd : decode cc pc = .ok (.invokevirtual idx, 3)) (hlink : Cond.methodLink own idx yM_leastFree ∈ am_TW) (hcat : (rest.map fun v => v.category).sum ≤ 8) (hR : 4 + 1 ≤ rm.frames ∧ 8 + (2 + 11) + 38 * 4 ≤ rm.locals) (hk : k + 1 ≤ rm.cells ∧ n + 6 ≤ rm.slots) (hm : k ≤ mc ∧ n ≤ ms) (hlt : l.stackTraces = false) (h : w_M_leastFree I J K X1) (kk : ∀ (r : Int32) (I1 : am_MI) (J1 : am_MJ), K r I1 J1 → am l D aC own cc nL ret ini [] G rm mc ms k n (pc + 3) L (.int r :: rest) (am_w ad aC I1 J1) Q (am_lx ad aC X1)) : am l D aC own cc nL ret ini [] G rm mc ms k n pc L (.ref (ad 28) :: rest) (am_w ad aC I J) Q (am_lx ad aC X1) := by
  refine am_callV 28 6 (As := []) (N9 := 0) (t_M_leastFree hlt h) hd rfl (am_w_at ad aC I J (by omega)) rfl hlink (am_tw kw_863 rfl) (am_tw kw_862 rfl) ks_70 (am_tw kw_7 rfl) (by decide +kernel) rfl hcat ⟨rfl, rfl⟩ hR hk (fun E ws1 hx => am_out (fun x hx => nomatch hx) (Nat.add_le_add_right hm.1 1) (Nat.add_le_add_right hm.2 6) hx) ?_
  intro v ws1 hq
  obtain ⟨r, I1, J1, rfl, rfl, hq⟩ := hq
  exact kk r I1 J1 hq
end
def w_M_mount_229 (x5 : Int32) (x6 : Int32) (x7 : Int32) (I : am_MI) (J : am_MJ) (Q : Int32 → am_MI → am_MJ → Prop) (X : String → am_MI → am_MJ → Prop) (P30 : Int32 → am_MI → am_MJ → Prop) (P152 : Int32 → am_MI → am_MJ → Prop) : Prop :=
  ∀ P229 : Int32 → Int32 → am_MI → am_MJ → Prop, (∀ (x6 : Int32) (x7 : Int32) (I : am_MI) (J : am_MJ), (w_M_pages x5 I J (fun (r43 : Int32) (I41 : am_MI) (J42 : am_MJ) => (r43 ≤ x7 → (P152 (x5 + 1) I41 J42)) ∧ (¬ (r43 ≤ x7) → (vp_in (((64 : Int32) * x5) + x7) 512 ∧ (vp_in ((57 : Int32) + x6) 160 ∧ (P229 ((am_ui I41 33 (((64 : Int32) * x5) + x7).toNatClampNeg x6) 38 ((57 : Int32) + x6).toNatClampNeg) (x7 + 1) (am_ui I41 33 (((64 : Int32) * x5) + x7).toNatClampNeg x6) J42))))) X) → P229 x6 x7 I J) → P229 x6 x7 I J
set_option maxRecDepth 20000 in
theorem t_M_mount_229 {l : Launch} {D : va_G} {aC : Nat → ClassId} {ad : Nat → Nat} (hlt : l.stackTraces = false) {x5 : Int32} {x6 : Int32} {x7 : Int32} {I : am_MI} {J : am_MJ} {Q} {X} {P30 : Int32 → am_MI → am_MJ → Prop} {P152 : Int32 → am_MI → am_MJ → Prop} (uP30 : ∀ (x1 : Int32) (I : am_MI) (J : am_MJ), P30 x1 I J → am l D aC "BubbleBoxModel" cM_mount 8 (some .boolean) false [] am_G0 (am_rm 4) 0 0 0 0 30 [(0, .ref (ad 28)), (1, .int x1)] [] (am_w ad aC I J) (am_li ad aC Q) (am_lx ad aC X)) (uP152 : ∀ (x5 : Int32) (I : am_MI) (J : am_MJ), P152 x5 I J → am l D aC "BubbleBoxModel" cM_mount 8 (some .boolean) false [] am_G0 (am_rm 4) 0 0 0 0 152 [(0, .ref (ad 28)), (5, .int x5)] [] (am_w ad aC I J) (am_li ad aC Q) (am_lx ad aC X)) (h : w_M_mount_229 x5 x6 x7 I J Q X P30 P152) : am l D aC "BubbleBoxModel" cM_mount 8 (some .boolean) false [] am_G0 (am_rm 4) 0 0 0 0 229 [(0, .ref (ad 28)), (5, .int x5), (6, .int x6), (7, .int x7)] [] (am_w ad aC I J) (am_li ad aC Q) (am_lx ad aC X) := by
  unfold w_M_mount_229 at h
  refine h (fun (x6 : Int32) (x7 : Int32) (I : am_MI) (J : am_MJ) => am l D aC "BubbleBoxModel" cM_mount 8 (some .boolean) false [] am_G0 (am_rm 4) 0 0 0 0 229 [(0, .ref (ad 28)), (5, .int x5), (6, .int x6), (7, .int x7)] [] (am_w ad aC I J) (am_li ad aC Q) (am_lx ad aC X)) (fun x6 x7 I J h => ?_)
  refine am_iload 3 dM_mount_229 rfl ?_
  refine am_aload_n 0 dM_mount_231 rfl rfl ?_
  refine am_iload 1 dM_mount_232 rfl ?_
  refine kV_M_pages dM_mount_234 (am_tw kw_794 rfl) (Nat.le_of_ble_eq_true rfl) ⟨Nat.le_of_ble_eq_true rfl, Nat.le_of_ble_eq_true rfl⟩ ⟨Nat.le_of_ble_eq_true rfl, Nat.le_of_ble_eq_true rfl⟩ ⟨Nat.le_of_ble_eq_true rfl, Nat.le_of_ble_eq_true rfl⟩ hlt h (fun r43 I41 J42 h => ?_)
  refine am_icmp_ge 273 dM_mount_237 (by decide) (fun hc44 => ?_) (fun hc44 => ?_)
  · replace h := h.1 hc44
    refine am_iinc (j := 1) (v := x5 + 1) (L2 := [(5, .int (x5 + 1)), (0, .ref (ad 28)), (6, .int x6), (7, .int x7)]) dM_mount_273 rfl (congrArg (x5 + ·) (by decide : Int32.ofInt (1) = 1)) (Nat.le_of_ble_eq_true rfl) rfl ?_
    refine am_goto 152 dM_mount_276 (by decide) ?_
    exact am_sub [1, 0] rfl (uP152 _ _ _ h)
  · replace h := h.2 hc44
    refine am_aload_n 0 dM_mount_240 rfl rfl ?_
    refine go_M_chain dM_mount_241 (am_tw kw_670 rfl) ?_
    refine am_bipush (v := 64) dM_mount_244 (by decide) ?_
    refine am_iload 1 dM_mount_246 rfl ?_
    refine am_imul dM_mount_248 ?_
    refine am_iload 3 dM_mount_249 rfl ?_
    refine am_iadd dM_mount_251 ?_
    refine am_iload 2 dM_mount_252 rfl ?_
    obtain ⟨hi45, h⟩ := h
    refine st_33 hi45 dM_mount_254 ?_
    refine am_aload_n 0 dM_mount_255 rfl rfl ?_
    refine go_M_image dM_mount_256 (am_tw kw_677 rfl) ?_
    refine am_bipush (v := 57) dM_mount_259 (by decide) ?_
    refine am_iload 2 dM_mount_261 rfl ?_
    refine am_iadd dM_mount_263 ?_
    obtain ⟨hi46, h⟩ := h
    refine ld_38 hi46 dM_mount_264 ?_
    refine am_istore (L2 := [(6, .int ((am_ui I41 33 (((64 : Int32) * x5) + x7).toNatClampNeg x6) 38 ((57 : Int32) + x6).toNatClampNeg)), (0, .ref (ad 28)), (5, .int x5), (7, .int x7)]) dM_mount_265 (Nat.le_of_ble_eq_true rfl) rfl ?_
    refine am_iinc (j := 3) (v := x7 + 1) (L2 := [(7, .int (x7 + 1)), (6, .int ((am_ui I41 33 (((64 : Int32) * x5) + x7).toNatClampNeg x6) 38 ((57 : Int32) + x6).toNatClampNeg)), (0, .ref (ad 28)), (5, .int x5)]) dM_mount_267 rfl (congrArg (x7 + ·) (by decide : Int32.ofInt (1) = 1)) (Nat.le_of_ble_eq_true rfl) rfl ?_
    refine am_goto 229 dM_mount_270 (by decide) ?_
    exact am_sub [2, 3, 1, 0] rfl h

def w_M_mount_211 (x5 : Int32) (xs0 : Int32) (xs1 : Int32) (I : am_MI) (J : am_MJ) (Q : Int32 → am_MI → am_MJ → Prop) (X : String → am_MI → am_MJ → Prop) (P30 : Int32 → am_MI → am_MJ → Prop) (P152 : Int32 → am_MI → am_MJ → Prop) : Prop :=
  vp_in xs1 8 ∧ (vp_in ((5 : Int32) + ((7 : Int32) * x5)) 160 ∧ (w_M_mount_229 x5 ((am_ui I 32 xs1.toNatClampNeg xs0) 38 ((5 : Int32) + ((7 : Int32) * x5)).toNatClampNeg) (0 : Int32) (am_ui I 32 xs1.toNatClampNeg xs0) J Q X P30 P152))
set_option maxRecDepth 20000 in
theorem t_M_mount_211 {l : Launch} {D : va_G} {aC : Nat → ClassId} {ad : Nat → Nat} (hlt : l.stackTraces = false) {x5 : Int32} {xs0 : Int32} {xs1 : Int32} {I : am_MI} {J : am_MJ} {Q} {X} {P30 : Int32 → am_MI → am_MJ → Prop} {P152 : Int32 → am_MI → am_MJ → Prop} (uP30 : ∀ (x1 : Int32) (I : am_MI) (J : am_MJ), P30 x1 I J → am l D aC "BubbleBoxModel" cM_mount 8 (some .boolean) false [] am_G0 (am_rm 4) 0 0 0 0 30 [(0, .ref (ad 28)), (1, .int x1)] [] (am_w ad aC I J) (am_li ad aC Q) (am_lx ad aC X)) (uP152 : ∀ (x5 : Int32) (I : am_MI) (J : am_MJ), P152 x5 I J → am l D aC "BubbleBoxModel" cM_mount 8 (some .boolean) false [] am_G0 (am_rm 4) 0 0 0 0 152 [(0, .ref (ad 28)), (5, .int x5)] [] (am_w ad aC I J) (am_li ad aC Q) (am_lx ad aC X)) (h : w_M_mount_211 x5 xs0 xs1 I J Q X P30 P152) : am l D aC "BubbleBoxModel" cM_mount 8 (some .boolean) false [] am_G0 (am_rm 4) 0 0 0 0 211 [(0, .ref (ad 28)), (5, .int x5)] [.int xs0, .int xs1, .ref (ad 32)] (am_w ad aC I J) (am_li ad aC Q) (am_lx ad aC X) := by
  unfold w_M_mount_211 at h
  obtain ⟨hi39, h⟩ := h
  refine st_32 hi39 dM_mount_211 ?_
  refine am_aload_n 0 dM_mount_212 rfl rfl ?_
  refine go_M_image dM_mount_213 (am_tw kw_677 rfl) ?_
  refine am_iconst (v := 5) dM_mount_216 (by decide) ?_
  refine am_bipush (v := 7) dM_mount_217 (by decide) ?_
  refine am_iload 1 dM_mount_219 rfl ?_
  refine am_imul dM_mount_221 ?_
  refine am_iadd dM_mount_222 ?_
  obtain ⟨hi40, h⟩ := h
  refine ld_38 hi40 dM_mount_223 ?_
  refine am_istore (L2 := [(6, .int ((am_ui I 32 xs1.toNatClampNeg xs0) 38 ((5 : Int32) + ((7 : Int32) * x5)).toNatClampNeg)), (0, .ref (ad 28)), (5, .int x5)]) dM_mount_224 (Nat.le_of_ble_eq_true rfl) rfl ?_
  refine am_iconst (v := 0) dM_mount_226 (by decide) ?_
  refine am_istore (L2 := [(7, .int 0), (6, .int ((am_ui I 32 xs1.toNatClampNeg xs0) 38 ((5 : Int32) + ((7 : Int32) * x5)).toNatClampNeg)), (0, .ref (ad 28)), (5, .int x5)]) dM_mount_227 (Nat.le_of_ble_eq_true rfl) rfl ?_
  exact am_sub [2, 3, 1, 0] rfl (t_M_mount_229 hlt uP30 uP152 h)

def w_M_mount_152 (x5 : Int32) (I : am_MI) (J : am_MJ) (Q : Int32 → am_MI → am_MJ → Prop) (X : String → am_MI → am_MJ → Prop) (P30 : Int32 → am_MI → am_MJ → Prop) : Prop :=
  ∀ P152 : Int32 → am_MI → am_MJ → Prop, (∀ (x5 : Int32) (I : am_MI) (J : am_MJ), (((8 : Int32) ≤ x5 → (w_M_hold I J (fun (I27 : am_MI) (J28 : am_MJ) => Q 1 (am_ui I27 28 8 (1 : Int32)) J28) X)) ∧ (¬ ((8 : Int32) ≤ x5) → (w_M_getBytes ((1 : Int32) + ((7 : Int32) * x5)) (4 : Int32) I J (fun (r32 : Int32) (I30 : am_MI) (J31 : am_MJ) => vp_in x5 8 ∧ (vp_in x5 8 ∧ ((¬ ((am_ui I30 31 x5.toNatClampNeg r32) 31 x5.toNatClampNeg) = 0 → (w_M_getBytes ((6 : Int32) + ((7 : Int32) * x5)) (2 : Int32) (am_ui I30 31 x5.toNatClampNeg r32) J31 (fun (r38 : Int32) (I36 : am_MI) (J37 : am_MJ) => w_M_mount_211 x5 r38 x5 I36 J37 Q X P30 P152) X)) ∧ (((am_ui I30 31 x5.toNatClampNeg r32) 31 x5.toNatClampNeg) = 0 → (w_M_mount_211 x5 (0 : Int32) x5 (am_ui I30 31 x5.toNatClampNeg r32) J31 Q X P30 P152))))) X))) → P152 x5 I J) → P152 x5 I J
set_option maxRecDepth 20000 in
theorem t_M_mount_152 {l : Launch} {D : va_G} {aC : Nat → ClassId} {ad : Nat → Nat} (hlt : l.stackTraces = false) {x5 : Int32} {I : am_MI} {J : am_MJ} {Q} {X} {P30 : Int32 → am_MI → am_MJ → Prop} (uP30 : ∀ (x1 : Int32) (I : am_MI) (J : am_MJ), P30 x1 I J → am l D aC "BubbleBoxModel" cM_mount 8 (some .boolean) false [] am_G0 (am_rm 4) 0 0 0 0 30 [(0, .ref (ad 28)), (1, .int x1)] [] (am_w ad aC I J) (am_li ad aC Q) (am_lx ad aC X)) (h : w_M_mount_152 x5 I J Q X P30) : am l D aC "BubbleBoxModel" cM_mount 8 (some .boolean) false [] am_G0 (am_rm 4) 0 0 0 0 152 [(0, .ref (ad 28)), (5, .int x5)] [] (am_w ad aC I J) (am_li ad aC Q) (am_lx ad aC X) := by
  unfold w_M_mount_152 at h
  refine h (fun (x5 : Int32) (I : am_MI) (J : am_MJ) => am l D aC "BubbleBoxModel" cM_mount 8 (some .boolean) false [] am_G0 (am_rm 4) 0 0 0 0 152 [(0, .ref (ad 28)), (5, .int x5)] [] (am_w ad aC I J) (am_li ad aC Q) (am_lx ad aC X)) (fun x5 I J h => ?_)
  refine am_iload 1 dM_mount_152 rfl ?_
  refine am_bipush (v := 8) dM_mount_154 (by decide) ?_
  refine am_icmp_ge 279 dM_mount_156 (by decide) (fun hc26 => ?_) (fun hc26 => ?_)
  · replace h := h.1 hc26
    refine am_aload_n 0 dM_mount_279 rfl rfl ?_
    refine kV_M_hold dM_mount_280 (am_tw kw_808 rfl) (Nat.le_of_ble_eq_true rfl) ⟨Nat.le_of_ble_eq_true rfl, Nat.le_of_ble_eq_true rfl⟩ ⟨Nat.le_of_ble_eq_true rfl, Nat.le_of_ble_eq_true rfl⟩ ⟨Nat.le_of_ble_eq_true rfl, Nat.le_of_ble_eq_true rfl⟩ hlt h (fun I27 J28 h => ?_)
    refine am_aload_n 0 dM_mount_283 rfl rfl ?_
    refine am_iconst (v := 1) dM_mount_284 (by decide) ?_
    refine po_M_mounted dM_mount_285 (am_tw kw_667 rfl) (by decide) ?_
    refine am_iconst (v := 1) dM_mount_288 (by decide) ?_
    exact am_zret dM_mount_289 rfl (Nat.le_of_ble_eq_true rfl) (Nat.le_of_ble_eq_true rfl) (by decide) ⟨_, _, _, rfl, rfl, h⟩
  · replace h := h.2 hc26
    refine am_aload_n 0 dM_mount_159 rfl rfl ?_
    refine go_M_name dM_mount_160 (am_tw kw_668 rfl) ?_
    refine am_iload 1 dM_mount_163 rfl ?_
    refine am_aload_n 0 dM_mount_165 rfl rfl ?_
    refine am_iconst (v := 1) dM_mount_166 (by decide) ?_
    refine am_bipush (v := 7) dM_mount_167 (by decide) ?_
    refine am_iload 1 dM_mount_169 rfl ?_
    refine am_imul dM_mount_171 ?_
    refine am_iadd dM_mount_172 ?_
    refine am_iconst (v := 4) dM_mount_173 (by decide) ?_
    refine kV_M_getBytes dM_mount_174 (am_tw kw_828 rfl) (Nat.le_of_ble_eq_true rfl) ⟨Nat.le_of_ble_eq_true rfl, Nat.le_of_ble_eq_true rfl⟩ ⟨Nat.le_of_ble_eq_true rfl, Nat.le_of_ble_eq_true rfl⟩ ⟨Nat.le_of_ble_eq_true rfl, Nat.le_of_ble_eq_true rfl⟩ hlt h (fun r32 I30 J31 h => ?_)
    obtain ⟨hi33, h⟩ := h
    refine st_31 hi33 dM_mount_177 ?_
    refine am_aload_n 0 dM_mount_178 rfl rfl ?_
    refine go_M_length dM_mount_179 (am_tw kw_669 rfl) ?_
    refine am_iload 1 dM_mount_182 rfl ?_
    refine am_aload_n 0 dM_mount_184 rfl rfl ?_
    refine go_M_name dM_mount_185 (am_tw kw_668 rfl) ?_
    refine am_iload 1 dM_mount_188 rfl ?_
    obtain ⟨hi34, h⟩ := h
    refine ld_31 hi34 dM_mount_190 ?_
    refine am_if_ne 198 dM_mount_191 (by decide) (fun hc35 => ?_) (fun hc35 => ?_)
    · replace h := h.1 hc35
      refine am_aload_n 0 dM_mount_198 rfl rfl ?_
      refine am_bipush (v := 6) dM_mount_199 (by decide) ?_
      refine am_bipush (v := 7) dM_mount_201 (by decide) ?_
      refine am_iload 1 dM_mount_203 rfl ?_
      refine am_imul dM_mount_205 ?_
      refine am_iadd dM_mount_206 ?_
      refine am_iconst (v := 2) dM_mount_207 (by decide) ?_
      refine kV_M_getBytes dM_mount_208 (am_tw kw_828 rfl) (Nat.le_of_ble_eq_true rfl) ⟨Nat.le_of_ble_eq_true rfl, Nat.le_of_ble_eq_true rfl⟩ ⟨Nat.le_of_ble_eq_true rfl, Nat.le_of_ble_eq_true rfl⟩ ⟨Nat.le_of_ble_eq_true rfl, Nat.le_of_ble_eq_true rfl⟩ hlt h (fun r38 I36 J37 h => ?_)
      exact am_sub [0, 1] rfl (t_M_mount_211 hlt uP30 (fun _ _ _ h => h) h)
    · replace h := h.2 hc35
      refine am_iconst (v := 0) dM_mount_194 (by decide) ?_
      refine am_goto 211 dM_mount_195 (by decide) ?_
      exact am_sub [0, 1] rfl (t_M_mount_211 hlt uP30 (fun _ _ _ h => h) h)

def w_M_mount_128 (xs0 : Int32) (I : am_MI) (J : am_MJ) (Q : Int32 → am_MI → am_MJ → Prop) (X : String → am_MI → am_MJ → Prop) (P30 : Int32 → am_MI → am_MJ → Prop) : Prop :=
  w_M_loadImage ((am_ui I 28 15 xs0) 28 15) (am_ui I 28 15 xs0) J (fun (I22 : am_MI) (J23 : am_MJ) => vp_in (0 : Int32) 160 ∧ (w_M_mount_152 (0 : Int32) (am_ui I22 28 16 (I22 38 (0 : Int32).toNatClampNeg)) J23 Q X P30)) X
set_option maxRecDepth 20000 in
theorem t_M_mount_128 {l : Launch} {D : va_G} {aC : Nat → ClassId} {ad : Nat → Nat} (hlt : l.stackTraces = false) {xs0 : Int32} {I : am_MI} {J : am_MJ} {Q} {X} {P30 : Int32 → am_MI → am_MJ → Prop} (uP30 : ∀ (x1 : Int32) (I : am_MI) (J : am_MJ), P30 x1 I J → am l D aC "BubbleBoxModel" cM_mount 8 (some .boolean) false [] am_G0 (am_rm 4) 0 0 0 0 30 [(0, .ref (ad 28)), (1, .int x1)] [] (am_w ad aC I J) (am_li ad aC Q) (am_lx ad aC X)) (h : w_M_mount_128 xs0 I J Q X P30) : am l D aC "BubbleBoxModel" cM_mount 8 (some .boolean) false [] am_G0 (am_rm 4) 0 0 0 0 128 [(0, .ref (ad 28))] [.int xs0, .ref (ad 28)] (am_w ad aC I J) (am_li ad aC Q) (am_lx ad aC X) := by
  unfold w_M_mount_128 at h
  refine po_M_current dM_mount_128 (am_tw kw_674 rfl) ?_
  refine am_aload_n 0 dM_mount_131 rfl rfl ?_
  refine am_aload_n 0 dM_mount_132 rfl rfl ?_
  refine go_M_current dM_mount_133 (am_tw kw_674 rfl) ?_
  refine kV_M_loadImage dM_mount_136 (am_tw kw_820 rfl) (Nat.le_of_ble_eq_true rfl) ⟨Nat.le_of_ble_eq_true rfl, Nat.le_of_ble_eq_true rfl⟩ ⟨Nat.le_of_ble_eq_true rfl, Nat.le_of_ble_eq_true rfl⟩ ⟨Nat.le_of_ble_eq_true rfl, Nat.le_of_ble_eq_true rfl⟩ hlt h (fun I22 J23 h => ?_)
  refine am_aload_n 0 dM_mount_139 rfl rfl ?_
  refine am_aload_n 0 dM_mount_140 rfl rfl ?_
  refine go_M_image dM_mount_141 (am_tw kw_677 rfl) ?_
  refine am_iconst (v := 0) dM_mount_144 (by decide) ?_
  obtain ⟨hi25, h⟩ := h
  refine ld_38 hi25 dM_mount_145 ?_
  refine po_M_turn dM_mount_146 (am_tw kw_675 rfl) ?_
  refine am_iconst (v := 0) dM_mount_149 (by decide) ?_
  refine am_istore (L2 := [(5, .int 0), (0, .ref (ad 28))]) dM_mount_150 (Nat.le_of_ble_eq_true rfl) rfl ?_
  exact am_sub [1, 0] rfl (t_M_mount_152 hlt uP30 h)

def w_M_mount_127 (I : am_MI) (J : am_MJ) (Q : Int32 → am_MI → am_MJ → Prop) (X : String → am_MI → am_MJ → Prop) (P30 : Int32 → am_MI → am_MJ → Prop) : Prop :=
  w_M_mount_128 (1 : Int32) I J Q X P30
set_option maxRecDepth 20000 in
theorem t_M_mount_127 {l : Launch} {D : va_G} {aC : Nat → ClassId} {ad : Nat → Nat} (hlt : l.stackTraces = false) {I : am_MI} {J : am_MJ} {Q} {X} {P30 : Int32 → am_MI → am_MJ → Prop} (uP30 : ∀ (x1 : Int32) (I : am_MI) (J : am_MJ), P30 x1 I J → am l D aC "BubbleBoxModel" cM_mount 8 (some .boolean) false [] am_G0 (am_rm 4) 0 0 0 0 30 [(0, .ref (ad 28)), (1, .int x1)] [] (am_w ad aC I J) (am_li ad aC Q) (am_lx ad aC X)) (h : w_M_mount_127 I J Q X P30) : am l D aC "BubbleBoxModel" cM_mount 8 (some .boolean) false [] am_G0 (am_rm 4) 0 0 0 0 127 [(0, .ref (ad 28))] [.ref (ad 28)] (am_w ad aC I J) (am_li ad aC Q) (am_lx ad aC X) := by
  unfold w_M_mount_127 at h
  refine am_iconst (v := 1) dM_mount_127 (by decide) ?_
  exact am_sub [0] rfl (t_M_mount_128 hlt uP30 h)

def w_M_mount_123 (I : am_MI) (J : am_MJ) (Q : Int32 → am_MI → am_MJ → Prop) (X : String → am_MI → am_MJ → Prop) (P30 : Int32 → am_MI → am_MJ → Prop) : Prop :=
  w_M_mount_128 (0 : Int32) I J Q X P30
set_option maxRecDepth 20000 in
theorem t_M_mount_123 {l : Launch} {D : va_G} {aC : Nat → ClassId} {ad : Nat → Nat} (hlt : l.stackTraces = false) {I : am_MI} {J : am_MJ} {Q} {X} {P30 : Int32 → am_MI → am_MJ → Prop} (uP30 : ∀ (x1 : Int32) (I : am_MI) (J : am_MJ), P30 x1 I J → am l D aC "BubbleBoxModel" cM_mount 8 (some .boolean) false [] am_G0 (am_rm 4) 0 0 0 0 30 [(0, .ref (ad 28)), (1, .int x1)] [] (am_w ad aC I J) (am_li ad aC Q) (am_lx ad aC X)) (h : w_M_mount_123 I J Q X P30) : am l D aC "BubbleBoxModel" cM_mount 8 (some .boolean) false [] am_G0 (am_rm 4) 0 0 0 0 123 [(0, .ref (ad 28))] [.ref (ad 28)] (am_w ad aC I J) (am_li ad aC Q) (am_lx ad aC X) := by
  unfold w_M_mount_123 at h
  refine am_iconst (v := 0) dM_mount_123 (by decide) ?_
  refine am_goto 128 dM_mount_124 (by decide) ?_
  exact am_sub [0] rfl (t_M_mount_128 hlt uP30 h)

def w_M_mount_84 (x1 : Int32) (x2 : Int32) (x3 : Int32) (I : am_MI) (J : am_MJ) (Q : Int32 → am_MI → am_MJ → Prop) (X : String → am_MI → am_MJ → Prop) (P30 : Int32 → am_MI → am_MJ → Prop) : Prop :=
  vp_in (0 : Int32) 160 ∧ ((x3 = 0 → (w_M_mount_127 I J Q X P30)) ∧ (¬ (x3 = 0) → ((x1 = 0 → (w_M_mount_123 I J Q X P30)) ∧ (¬ (x1 = 0) → (((((x2 - (I 38 (0 : Int32).toNatClampNeg)) + (256 : Int32)) - ((x2 - (I 38 (0 : Int32).toNatClampNeg)) + (256 : Int32)) / (256 : Int32) * (256 : Int32)) = 0 → (w_M_mount_123 I J Q X P30)) ∧ (¬ ((((x2 - (I 38 (0 : Int32).toNatClampNeg)) + (256 : Int32)) - ((x2 - (I 38 (0 : Int32).toNatClampNeg)) + (256 : Int32)) / (256 : Int32) * (256 : Int32)) = 0) → (((((x2 - (I 38 (0 : Int32).toNatClampNeg)) + (256 : Int32)) - ((x2 - (I 38 (0 : Int32).toNatClampNeg)) + (256 : Int32)) / (256 : Int32) * (256 : Int32)) ≤ (127 : Int32) → (w_M_mount_127 I J Q X P30)) ∧ (¬ ((((x2 - (I 38 (0 : Int32).toNatClampNeg)) + (256 : Int32)) - ((x2 - (I 38 (0 : Int32).toNatClampNeg)) + (256 : Int32)) / (256 : Int32) * (256 : Int32)) ≤ (127 : Int32)) → (w_M_mount_123 I J Q X P30)))))))))
set_option maxRecDepth 20000 in
theorem t_M_mount_84 {l : Launch} {D : va_G} {aC : Nat → ClassId} {ad : Nat → Nat} (hlt : l.stackTraces = false) {x1 : Int32} {x2 : Int32} {x3 : Int32} {I : am_MI} {J : am_MJ} {Q} {X} {P30 : Int32 → am_MI → am_MJ → Prop} (uP30 : ∀ (x1 : Int32) (I : am_MI) (J : am_MJ), P30 x1 I J → am l D aC "BubbleBoxModel" cM_mount 8 (some .boolean) false [] am_G0 (am_rm 4) 0 0 0 0 30 [(0, .ref (ad 28)), (1, .int x1)] [] (am_w ad aC I J) (am_li ad aC Q) (am_lx ad aC X)) (h : w_M_mount_84 x1 x2 x3 I J Q X P30) : am l D aC "BubbleBoxModel" cM_mount 8 (some .boolean) false [] am_G0 (am_rm 4) 0 0 0 0 84 [(0, .ref (ad 28)), (1, .int x1), (2, .int x2), (3, .int x3)] [] (am_w ad aC I J) (am_li ad aC Q) (am_lx ad aC X) := by
  unfold w_M_mount_84 at h
  refine am_iload_n 2 dM_mount_84 rfl rfl ?_
  refine am_aload_n 0 dM_mount_85 rfl rfl ?_
  refine go_M_image dM_mount_86 (am_tw kw_677 rfl) ?_
  refine am_iconst (v := 0) dM_mount_89 (by decide) ?_
  obtain ⟨hi20, h⟩ := h
  refine ld_38 hi20 dM_mount_90 ?_
  refine am_isub dM_mount_91 ?_
  refine am_sipush (v := 256) dM_mount_92 (by decide) ?_
  refine am_iadd dM_mount_95 ?_
  refine am_sipush (v := 256) dM_mount_96 (by decide) ?_
  refine am_irem dM_mount_99 (by decide) ?_
  refine am_istore (L2 := [(4, .int (((x2 - (I 38 (0 : Int32).toNatClampNeg)) + (256 : Int32)) - ((x2 - (I 38 (0 : Int32).toNatClampNeg)) + (256 : Int32)) / (256 : Int32) * (256 : Int32))), (0, .ref (ad 28)), (1, .int x1), (2, .int x2), (3, .int x3)]) dM_mount_100 (Nat.le_of_ble_eq_true rfl) rfl ?_
  refine am_aload_n 1 dM_mount_102 rfl rfl ?_
  refine am_iload_n 4 dM_mount_103 rfl rfl ?_
  refine am_if_eq 127 dM_mount_104 (by decide) (fun hc21 => ?_) (fun hc21 => ?_)
  · replace h := h.1 hc21
    exact am_sub [1] rfl (t_M_mount_127 hlt uP30 h)
  · replace h := h.2 hc21
    refine am_iload_n 2 dM_mount_107 rfl rfl ?_
    refine am_if_eq 123 dM_mount_108 (by decide) (fun hc47 => ?_) (fun hc47 => ?_)
    · replace h := h.1 hc47
      exact am_sub [1] rfl (t_M_mount_123 hlt uP30 h)
    · replace h := h.2 hc47
      refine am_iload 0 dM_mount_111 rfl ?_
      refine am_if_eq 123 dM_mount_113 (by decide) (fun hc48 => ?_) (fun hc48 => ?_)
      · replace h := h.1 hc48
        exact am_sub [1] rfl (t_M_mount_123 hlt uP30 h)
      · replace h := h.2 hc48
        refine am_iload 0 dM_mount_116 rfl ?_
        refine am_bipush (v := 127) dM_mount_118 (by decide) ?_
        refine am_icmp_le 127 dM_mount_120 (by decide) (fun hc49 => ?_) (fun hc49 => ?_)
        · replace h := h.1 hc49
          exact am_sub [1] rfl (t_M_mount_127 hlt uP30 h)
        · replace h := h.2 hc49
          exact am_sub [1] rfl (t_M_mount_123 hlt uP30 h)

def w_M_mount_30 (x1 : Int32) (I : am_MI) (J : am_MJ) (Q : Int32 → am_MI → am_MJ → Prop) (X : String → am_MI → am_MJ → Prop) : Prop :=
  ∀ P30 : Int32 → am_MI → am_MJ → Prop, (∀ (x1 : Int32) (I : am_MI) (J : am_MJ), (((40 : Int32) ≤ x1 → (w_M_loadImage (1 : Int32) I J (fun (I6 : am_MI) (J7 : am_MJ) => w_M_isValid I6 J7 (fun (r11 : Int32) (I9 : am_MI) (J10 : am_MJ) => vp_in (0 : Int32) 160 ∧ (w_M_loadImage (0 : Int32) I9 J10 (fun (I13 : am_MI) (J14 : am_MJ) => w_M_isValid I13 J14 (fun (r18 : Int32) (I16 : am_MI) (J17 : am_MJ) => (¬ r18 = 0 → (w_M_mount_84 r11 (I9 38 (0 : Int32).toNatClampNeg) r18 I16 J17 Q X P30)) ∧ (r18 = 0 → ((¬ r11 = 0 → (w_M_mount_84 r11 (I9 38 (0 : Int32).toNatClampNeg) r18 I16 J17 Q X P30)) ∧ (r11 = 0 → (Q 0 I16 J17))))) X) X)) X) X)) ∧ (¬ ((40 : Int32) ≤ x1) → (w_M_turnTo x1 I J (fun (I51 : am_MI) (J52 : am_MJ) => P30 (x1 + 1) I51 J52) X))) → P30 x1 I J) → P30 x1 I J
set_option maxRecDepth 20000 in
theorem t_M_mount_30 {l : Launch} {D : va_G} {aC : Nat → ClassId} {ad : Nat → Nat} (hlt : l.stackTraces = false) {x1 : Int32} {I : am_MI} {J : am_MJ} {Q} {X} (h : w_M_mount_30 x1 I J Q X) : am l D aC "BubbleBoxModel" cM_mount 8 (some .boolean) false [] am_G0 (am_rm 4) 0 0 0 0 30 [(0, .ref (ad 28)), (1, .int x1)] [] (am_w ad aC I J) (am_li ad aC Q) (am_lx ad aC X) := by
  unfold w_M_mount_30 at h
  refine h (fun (x1 : Int32) (I : am_MI) (J : am_MJ) => am l D aC "BubbleBoxModel" cM_mount 8 (some .boolean) false [] am_G0 (am_rm 4) 0 0 0 0 30 [(0, .ref (ad 28)), (1, .int x1)] [] (am_w ad aC I J) (am_li ad aC Q) (am_lx ad aC X)) (fun x1 I J h => ?_)
  refine am_iload_n 1 dM_mount_30 rfl rfl ?_
  refine am_bipush (v := 40) dM_mount_31 (by decide) ?_
  refine am_icmp_ge 47 dM_mount_33 (by decide) (fun hc5 => ?_) (fun hc5 => ?_)
  · replace h := h.1 hc5
    refine am_aload_n 0 dM_mount_47 rfl rfl ?_
    refine am_iconst (v := 1) dM_mount_48 (by decide) ?_
    refine kV_M_loadImage dM_mount_49 (am_tw kw_820 rfl) (Nat.le_of_ble_eq_true rfl) ⟨Nat.le_of_ble_eq_true rfl, Nat.le_of_ble_eq_true rfl⟩ ⟨Nat.le_of_ble_eq_true rfl, Nat.le_of_ble_eq_true rfl⟩ ⟨Nat.le_of_ble_eq_true rfl, Nat.le_of_ble_eq_true rfl⟩ hlt h (fun I6 J7 h => ?_)
    refine am_aload_n 0 dM_mount_52 rfl rfl ?_
    refine kV_M_isValid dM_mount_53 (am_tw kw_824 rfl) (Nat.le_of_ble_eq_true rfl) ⟨Nat.le_of_ble_eq_true rfl, Nat.le_of_ble_eq_true rfl⟩ ⟨Nat.le_of_ble_eq_true rfl, Nat.le_of_ble_eq_true rfl⟩ ⟨Nat.le_of_ble_eq_true rfl, Nat.le_of_ble_eq_true rfl⟩ hlt h (fun r11 I9 J10 h => ?_)
    refine am_istore_n (L2 := [(1, .int r11), (0, .ref (ad 28))]) dM_mount_56 rfl (Nat.le_of_ble_eq_true rfl) rfl ?_
    refine am_aload_n 1 dM_mount_57 rfl rfl ?_
    refine go_M_image dM_mount_58 (am_tw kw_677 rfl) ?_
    refine am_iconst (v := 0) dM_mount_61 (by decide) ?_
    obtain ⟨hi12, h⟩ := h
    refine ld_38 hi12 dM_mount_62 ?_
    refine am_istore_n (L2 := [(2, .int (I9 38 (0 : Int32).toNatClampNeg)), (1, .int r11), (0, .ref (ad 28))]) dM_mount_63 rfl (Nat.le_of_ble_eq_true rfl) rfl ?_
    refine am_aload_n 2 dM_mount_64 rfl rfl ?_
    refine am_iconst (v := 0) dM_mount_65 (by decide) ?_
    refine kV_M_loadImage dM_mount_66 (am_tw kw_820 rfl) (Nat.le_of_ble_eq_true rfl) ⟨Nat.le_of_ble_eq_true rfl, Nat.le_of_ble_eq_true rfl⟩ ⟨Nat.le_of_ble_eq_true rfl, Nat.le_of_ble_eq_true rfl⟩ ⟨Nat.le_of_ble_eq_true rfl, Nat.le_of_ble_eq_true rfl⟩ hlt h (fun I13 J14 h => ?_)
    refine am_aload_n 2 dM_mount_69 rfl rfl ?_
    refine kV_M_isValid dM_mount_70 (am_tw kw_824 rfl) (Nat.le_of_ble_eq_true rfl) ⟨Nat.le_of_ble_eq_true rfl, Nat.le_of_ble_eq_true rfl⟩ ⟨Nat.le_of_ble_eq_true rfl, Nat.le_of_ble_eq_true rfl⟩ ⟨Nat.le_of_ble_eq_true rfl, Nat.le_of_ble_eq_true rfl⟩ hlt h (fun r18 I16 J17 h => ?_)
    refine am_istore_n (L2 := [(3, .int r18), (2, .int (I9 38 (0 : Int32).toNatClampNeg)), (1, .int r11), (0, .ref (ad 28))]) dM_mount_73 rfl (Nat.le_of_ble_eq_true rfl) rfl ?_
    refine am_iload_n 0 dM_mount_74 rfl rfl ?_
    refine am_if_ne 84 dM_mount_75 (by decide) (fun hc19 => ?_) (fun hc19 => ?_)
    · replace h := h.1 hc19
      exact am_sub [3, 2, 1, 0] rfl (t_M_mount_84 hlt (fun _ _ _ h => h) h)
    · replace h := h.2 hc19
      refine am_iload_n 2 dM_mount_78 rfl rfl ?_
      refine am_if_ne 84 dM_mount_79 (by decide) (fun hc50 => ?_) (fun hc50 => ?_)
      · replace h := h.1 hc50
        exact am_sub [3, 2, 1, 0] rfl (t_M_mount_84 hlt (fun _ _ _ h => h) h)
      · replace h := h.2 hc50
        refine am_iconst (v := 0) dM_mount_82 (by decide) ?_
        exact am_zret dM_mount_83 rfl (Nat.le_of_ble_eq_true rfl) (Nat.le_of_ble_eq_true rfl) (by decide) ⟨_, _, _, rfl, rfl, h⟩
  · replace h := h.2 hc5
    refine am_aload_n 0 dM_mount_36 rfl rfl ?_
    refine am_iload_n 1 dM_mount_37 rfl rfl ?_
    refine kV_M_turnTo dM_mount_38 (am_tw kw_782 rfl) (Nat.le_of_ble_eq_true rfl) ⟨Nat.le_of_ble_eq_true rfl, Nat.le_of_ble_eq_true rfl⟩ ⟨Nat.le_of_ble_eq_true rfl, Nat.le_of_ble_eq_true rfl⟩ ⟨Nat.le_of_ble_eq_true rfl, Nat.le_of_ble_eq_true rfl⟩ hlt h (fun I51 J52 h => ?_)
    refine am_iinc (j := 1) (v := x1 + 1) (L2 := [(1, .int (x1 + 1)), (0, .ref (ad 28))]) dM_mount_41 rfl (congrArg (x1 + ·) (by decide : Int32.ofInt (1) = 1)) (Nat.le_of_ble_eq_true rfl) rfl ?_
    refine am_goto 30 dM_mount_44 (by decide) ?_
    exact am_sub [1, 0] rfl h

def w_M_mount (I : am_MI) (J : am_MJ) (Q : Int32 → am_MI → am_MJ → Prop) (X : String → am_MI → am_MJ → Prop) : Prop :=
  w_M_forget (am_ui (am_ui (am_ui I 28 0 (0 : Int32)) 28 7 (1 : Int32)) 28 6 ((-1) : Int32)) J (fun (I1 : am_MI) (J2 : am_MJ) => (¬ (I1 28 2) = 0 → (w_M_mount_30 (0 : Int32) I1 J2 Q X)) ∧ ((I1 28 2) = 0 → (Q 0 I1 J2))) X
set_option maxRecDepth 20000 in
theorem t_M_mount {l : Launch} {D : va_G} {aC : Nat → ClassId} {ad : Nat → Nat} (hlt : l.stackTraces = false) {I : am_MI} {J : am_MJ} {Q} {X} (h : w_M_mount I J Q X) : am_c l D aC yM_mount (.code yM_mount cM_mount 8 (some .boolean)) (am_rm 4) 0 0 [.ref (ad 28)] (am_w ad aC I J) (am_li ad aC Q) (am_lx ad aC X) := by
  unfold w_M_mount at h
  refine am_of (ini := false) hlt (by decide +kernel) (Nat.le_of_ble_eq_true rfl) (fun h => nomatch h) ?_
  show am l D aC "BubbleBoxModel" cM_mount 8 (some .boolean) false [] am_G0 (am_rm 4) 0 0 0 0 0 [(0, .ref (ad 28))] [] (am_w ad aC I J) (am_li ad aC Q) (am_lx ad aC X)
  refine am_aload_n 0 dM_mount_0 rfl rfl ?_
  refine am_iconst (v := 0) dM_mount_1 (by decide) ?_
  refine po_M_code dM_mount_2 (am_tw kw_659 rfl) ?_
  refine am_aload_n 0 dM_mount_5 rfl rfl ?_
  refine am_iconst (v := 1) dM_mount_6 (by decide) ?_
  refine po_M_on dM_mount_7 (am_tw kw_666 rfl) (by decide) ?_
  refine am_aload_n 0 dM_mount_10 rfl rfl ?_
  refine am_iconst (v := (-1)) dM_mount_11 (by decide) ?_
  refine po_M_left dM_mount_12 (am_tw kw_665 rfl) ?_
  refine am_aload_n 0 dM_mount_15 rfl rfl ?_
  refine kV_M_forget dM_mount_16 (am_tw kw_651 rfl) (Nat.le_of_ble_eq_true rfl) ⟨Nat.le_of_ble_eq_true rfl, Nat.le_of_ble_eq_true rfl⟩ ⟨Nat.le_of_ble_eq_true rfl, Nat.le_of_ble_eq_true rfl⟩ ⟨Nat.le_of_ble_eq_true rfl, Nat.le_of_ble_eq_true rfl⟩ hlt h (fun I1 J2 h => ?_)
  refine am_aload_n 0 dM_mount_19 rfl rfl ?_
  refine go_M_mapped dM_mount_20 (am_tw kw_661 rfl) ?_
  refine am_if_ne 28 dM_mount_23 (by decide) (fun hc4 => ?_) (fun hc4 => ?_)
  · replace h := h.1 hc4
    refine am_iconst (v := 0) dM_mount_28 (by decide) ?_
    refine am_istore_n (L2 := [(1, .int 0), (0, .ref (ad 28))]) dM_mount_29 rfl (Nat.le_of_ble_eq_true rfl) rfl ?_
    exact am_sub [1, 0] rfl (t_M_mount_30 hlt h)
  · replace h := h.2 hc4
    refine am_iconst (v := 0) dM_mount_26 (by decide) ?_
    exact am_zret dM_mount_27 rfl (Nat.le_of_ble_eq_true rfl) (Nat.le_of_ble_eq_true rfl) (by decide) ⟨_, _, _, rfl, rfl, h⟩
section
variable {l : Launch} {D : va_G} {aC : Nat → ClassId} {ad : Nat → Nat} {own : String} {cc : ByteArray} {nL : Nat} {ret : Option FieldType} {ini : Bool} {tb : List (Nat × Nat × Nat × Nat)} {G : State → (Nat → Prop) → Prop} {rm : Room} {mc ms k n pc idx : Nat} {L : List (Nat × Value)} {st rest : List Value} {I : am_MI} {J : am_MJ} {Q : Option Value → va_W → Prop} {X : String → va_W → Prop}
theorem kV_M_mount {K : Int32 → am_MI → am_MJ → Prop} {X1 : String → am_MI → am_MJ → Prop} (hd : decode cc pc = .ok (.invokevirtual idx, 3)) (hlink : Cond.methodLink own idx yM_mount ∈ am_TW) (hcat : (rest.map fun v => v.category).sum ≤ 8) (hR : 4 + 1 ≤ rm.frames ∧ 8 + (8 + 11) + 38 * 4 ≤ rm.locals) (hk : k + 1 ≤ rm.cells ∧ n + 6 ≤ rm.slots) (hm : k ≤ mc ∧ n ≤ ms) (hlt : l.stackTraces = false) (h : w_M_mount I J K X1) (kk : ∀ (r : Int32) (I1 : am_MI) (J1 : am_MJ), K r I1 J1 → am l D aC own cc nL ret ini [] G rm mc ms k n (pc + 3) L (.int r :: rest) (am_w ad aC I1 J1) Q (am_lx ad aC X1)) : am l D aC own cc nL ret ini [] G rm mc ms k n pc L (.ref (ad 28) :: rest) (am_w ad aC I J) Q (am_lx ad aC X1) := by
  refine am_callV 28 6 (As := []) (N9 := 0) (t_M_mount hlt h) hd rfl (am_w_at ad aC I J (by omega)) rfl hlink (am_tw kw_819 rfl) (am_tw kw_817 rfl) (am_tw kw_818 rfl) (am_tw kw_7 rfl) (by decide +kernel) rfl hcat ⟨rfl, rfl⟩ hR hk (fun E ws1 hx => am_out (fun x hx => nomatch hx) (Nat.add_le_add_right hm.1 1) (Nat.add_le_add_right hm.2 6) hx) ?_
  intro v ws1 hq
  obtain ⟨r, I1, J1, rfl, rfl, hq⟩ := hq
  exact kk r I1 J1 hq
end

def w_M_read (a0 : Int32) (I : am_MI) (J : am_MJ) (Q : Int64 → am_MI → am_MJ → Prop) (X : String → am_MI → am_MJ → Prop) : Prop :=
  ((I 28 7) = 0 → (Q 0 I J)) ∧ (¬ ((I 28 7) = 0) → (w_M_goes a0 I J (fun (r4 : Int32) (I2 : am_MI) (J3 : am_MJ) => (r4 = 0 → (Q 0 I2 J3)) ∧ (¬ (r4 = 0) → (vp_in a0 101 ∧ (Q (J3 30 a0.toNatClampNeg) I2 J3)))) X))
set_option maxRecDepth 20000 in
theorem t_M_read {l : Launch} {D : va_G} {aC : Nat → ClassId} {ad : Nat → Nat} (hlt : l.stackTraces = false) {a0 : Int32} {I : am_MI} {J : am_MJ} {Q} {X} (h : w_M_read a0 I J Q X) : am_c l D aC yM_read (.code yM_read cM_read 2 (some .long)) (am_rm 4) 0 0 [.ref (ad 28), .int a0] (am_w ad aC I J) (am_ll ad aC Q) (am_lx ad aC X) := by
  unfold w_M_read at h
  refine am_of (ini := false) hlt (by decide +kernel) (Nat.le_of_ble_eq_true rfl) (fun h => nomatch h) ?_
  show am l D aC "BubbleBoxModel" cM_read 2 (some .long) false [] am_G0 (am_rm 4) 0 0 0 0 0 [(0, .ref (ad 28)), (1, .int a0)] [] (am_w ad aC I J) (am_ll ad aC Q) (am_lx ad aC X)
  refine am_aload_n 0 dM_read_0 rfl rfl ?_
  refine go_M_on dM_read_1 (am_tw kw_666 rfl) ?_
  refine am_if_eq 24 dM_read_4 (by decide) (fun hc1 => ?_) (fun hc1 => ?_)
  · replace h := h.1 hc1
    refine am_lconst (v := 0) dM_read_24 (by decide) ?_
    exact am_lret dM_read_25 rfl (Nat.le_of_ble_eq_true rfl) (Nat.le_of_ble_eq_true rfl) ⟨_, _, _, rfl, rfl, h⟩
  · replace h := h.2 hc1
    refine am_aload_n 0 dM_read_7 rfl rfl ?_
    refine am_iload_n 1 dM_read_8 rfl rfl ?_
    refine kV_M_goes dM_read_9 (am_tw kw_778 rfl) (Nat.le_of_ble_eq_true rfl) ⟨Nat.le_of_ble_eq_true rfl, Nat.le_of_ble_eq_true rfl⟩ ⟨Nat.le_of_ble_eq_true rfl, Nat.le_of_ble_eq_true rfl⟩ ⟨Nat.le_of_ble_eq_true rfl, Nat.le_of_ble_eq_true rfl⟩ hlt h (fun r4 I2 J3 h => ?_)
    refine am_if_eq 24 dM_read_12 (by decide) (fun hc5 => ?_) (fun hc5 => ?_)
    · replace h := h.1 hc5
      refine am_lconst (v := 0) dM_read_24 (by decide) ?_
      exact am_lret dM_read_25 rfl (Nat.le_of_ble_eq_true rfl) (Nat.le_of_ble_eq_true rfl) ⟨_, _, _, rfl, rfl, h⟩
    · replace h := h.2 hc5
      refine am_aload_n 0 dM_read_15 rfl rfl ?_
      refine go_M_data dM_read_16 (am_tw kw_662 rfl) ?_
      refine am_iload_n 1 dM_read_19 rfl rfl ?_
      obtain ⟨hi6, h⟩ := h
      refine ld_30 hi6 dM_read_20 ?_
      refine am_goto 25 dM_read_21 (by decide) ?_
      exact am_lret dM_read_25 rfl (Nat.le_of_ble_eq_true rfl) (Nat.le_of_ble_eq_true rfl) ⟨_, _, _, rfl, rfl, h⟩
section
variable {l : Launch} {D : va_G} {aC : Nat → ClassId} {ad : Nat → Nat} {own : String} {cc : ByteArray} {nL : Nat} {ret : Option FieldType} {ini : Bool} {tb : List (Nat × Nat × Nat × Nat)} {G : State → (Nat → Prop) → Prop} {rm : Room} {mc ms k n pc idx : Nat} {L : List (Nat × Value)} {st rest : List Value} {I : am_MI} {J : am_MJ} {Q : Option Value → va_W → Prop} {X : String → va_W → Prop}
theorem kV_M_read {a0 : Int32} {K : Int64 → am_MI → am_MJ → Prop} {X1 : String → am_MI → am_MJ → Prop} (hd : decode cc pc = .ok (.invokevirtual idx, 3)) (hlink : Cond.methodLink own idx yM_read ∈ am_TW) (hcat : (rest.map fun v => v.category).sum ≤ 8) (hR : 4 + 1 ≤ rm.frames ∧ 8 + (2 + 11) + 38 * 4 ≤ rm.locals) (hk : k + 1 ≤ rm.cells ∧ n + 6 ≤ rm.slots) (hm : k ≤ mc ∧ n ≤ ms) (hlt : l.stackTraces = false) (h : w_M_read a0 I J K X1) (kk : ∀ (r : Int64) (I1 : am_MI) (J1 : am_MJ), K r I1 J1 → am l D aC own cc nL ret ini [] G rm mc ms k n (pc + 3) L (.long r :: rest) (am_w ad aC I1 J1) Q (am_lx ad aC X1)) : am l D aC own cc nL ret ini [] G rm mc ms k n pc L (.int a0 :: .ref (ad 28) :: rest) (am_w ad aC I J) Q (am_lx ad aC X1) := by
  refine am_callV 28 6 (As := [.int a0]) (N9 := 1) (t_M_read hlt h) hd rfl (am_w_at ad aC I J (by omega)) rfl hlink (am_tw kw_875 rfl) (am_tw kw_874 rfl) ks_73 (am_tw kw_7 rfl) (by decide +kernel) rfl hcat ⟨rfl, rfl⟩ hR hk (fun E ws1 hx => am_out (fun x hx => nomatch hx) (Nat.add_le_add_right hm.1 1) (Nat.add_le_add_right hm.2 6) hx) ?_
  intro v ws1 hq
  obtain ⟨r, I1, J1, rfl, rfl, hq⟩ := hq
  exact kk r I1 J1 hq
end

def w_M_write (a0 : Int32) (a1 : Int64) (I : am_MI) (J : am_MJ) (Q : am_MI → am_MJ → Prop) (X : String → am_MI → am_MJ → Prop) : Prop :=
  ((I 28 7) = 0 → (Q I J)) ∧ (¬ ((I 28 7) = 0) → (w_M_goes a0 I J (fun (r4 : Int32) (I2 : am_MI) (J3 : am_MJ) => (r4 = 0 → (Q I2 J3)) ∧ (¬ (r4 = 0) → (vp_in a0 101 ∧ (Q I2 (am_uj J3 30 a0.toNatClampNeg a1))))) X))
set_option maxRecDepth 20000 in
theorem t_M_write {l : Launch} {D : va_G} {aC : Nat → ClassId} {ad : Nat → Nat} (hlt : l.stackTraces = false) {a0 : Int32} {a1 : Int64} {I : am_MI} {J : am_MJ} {Q} {X} (h : w_M_write a0 a1 I J Q X) : am_c l D aC yM_write (.code yM_write cM_write 4 none) (am_rm 4) 0 0 [.ref (ad 28), .int a0, .long a1] (am_w ad aC I J) (am_lv ad aC Q) (am_lx ad aC X) := by
  unfold w_M_write at h
  refine am_of (ini := false) hlt (by decide +kernel) (Nat.le_of_ble_eq_true rfl) (fun h => nomatch h) ?_
  show am l D aC "BubbleBoxModel" cM_write 4 none false [] am_G0 (am_rm 4) 0 0 0 0 0 [(0, .ref (ad 28)), (1, .int a0), (2, .long a1)] [] (am_w ad aC I J) (am_lv ad aC Q) (am_lx ad aC X)
  refine am_aload_n 0 dM_write_0 rfl rfl ?_
  refine go_M_on dM_write_1 (am_tw kw_666 rfl) ?_
  refine am_if_eq 22 dM_write_4 (by decide) (fun hc1 => ?_) (fun hc1 => ?_)
  · replace h := h.1 hc1
    exact am_vret dM_write_22 rfl (Nat.le_of_ble_eq_true rfl) (Nat.le_of_ble_eq_true rfl) ⟨_, _, rfl, rfl, h⟩
  · replace h := h.2 hc1
    refine am_aload_n 0 dM_write_7 rfl rfl ?_
    refine am_iload_n 1 dM_write_8 rfl rfl ?_
    refine kV_M_goes dM_write_9 (am_tw kw_778 rfl) (Nat.le_of_ble_eq_true rfl) ⟨Nat.le_of_ble_eq_true rfl, Nat.le_of_ble_eq_true rfl⟩ ⟨Nat.le_of_ble_eq_true rfl, Nat.le_of_ble_eq_true rfl⟩ ⟨Nat.le_of_ble_eq_true rfl, Nat.le_of_ble_eq_true rfl⟩ hlt h (fun r4 I2 J3 h => ?_)
    refine am_if_eq 22 dM_write_12 (by decide) (fun hc5 => ?_) (fun hc5 => ?_)
    · replace h := h.1 hc5
      exact am_vret dM_write_22 rfl (Nat.le_of_ble_eq_true rfl) (Nat.le_of_ble_eq_true rfl) ⟨_, _, rfl, rfl, h⟩
    · replace h := h.2 hc5
      refine am_aload_n 0 dM_write_15 rfl rfl ?_
      refine go_M_data dM_write_16 (am_tw kw_662 rfl) ?_
      refine am_iload_n 1 dM_write_19 rfl rfl ?_
      refine am_lload_n 2 dM_write_20 rfl rfl ?_
      obtain ⟨hi6, h⟩ := h
      refine st_30 hi6 dM_write_21 ?_
      exact am_vret dM_write_22 rfl (Nat.le_of_ble_eq_true rfl) (Nat.le_of_ble_eq_true rfl) ⟨_, _, rfl, rfl, h⟩
section
variable {l : Launch} {D : va_G} {aC : Nat → ClassId} {ad : Nat → Nat} {own : String} {cc : ByteArray} {nL : Nat} {ret : Option FieldType} {ini : Bool} {tb : List (Nat × Nat × Nat × Nat)} {G : State → (Nat → Prop) → Prop} {rm : Room} {mc ms k n pc idx : Nat} {L : List (Nat × Value)} {st rest : List Value} {I : am_MI} {J : am_MJ} {Q : Option Value → va_W → Prop} {X : String → va_W → Prop}
theorem kV_M_write {a0 : Int32} {a1 : Int64} {K : am_MI → am_MJ → Prop} {X1 : String → am_MI → am_MJ → Prop} (hd : decode cc pc = .ok (.invokevirtual idx, 3)) (hlink : Cond.methodLink own idx yM_write ∈ am_TW) (hcat : (rest.map fun v => v.category).sum ≤ 8) (hR : 4 + 1 ≤ rm.frames ∧ 8 + (4 + 11) + 38 * 4 ≤ rm.locals) (hk : k + 1 ≤ rm.cells ∧ n + 6 ≤ rm.slots) (hm : k ≤ mc ∧ n ≤ ms) (hlt : l.stackTraces = false) (h : w_M_write a0 a1 I J K X1) (kk : ∀ (I1 : am_MI) (J1 : am_MJ), K I1 J1 → am l D aC own cc nL ret ini [] G rm mc ms k n (pc + 3) L rest (am_w ad aC I1 J1) Q (am_lx ad aC X1)) : am l D aC own cc nL ret ini [] G rm mc ms k n pc L (.long a1 :: .int a0 :: .ref (ad 28) :: rest) (am_w ad aC I J) Q (am_lx ad aC X1) := by
  refine am_callV 28 6 (As := [.int a0, .long a1]) (N9 := 2) (t_M_write hlt h) hd rfl (am_w_at ad aC I J (by omega)) rfl hlink (am_tw kw_777 rfl) (am_tw kw_776 rfl) ks_54 (am_tw kw_7 rfl) (by decide +kernel) rfl hcat ⟨rfl, rfl⟩ hR hk (fun E ws1 hx => am_out (fun x hx => nomatch hx) (Nat.add_le_add_right hm.1 1) (Nat.add_le_add_right hm.2 6) hx) ?_
  intro v ws1 hq
  obtain ⟨I1, J1, rfl, rfl, hq⟩ := hq
  exact kk I1 J1 hq
end

def w_M_save (a0 : Int32) (I : am_MI) (J : am_MJ) (Q : am_MI → am_MJ → Prop) (X : String → am_MI → am_MJ → Prop) : Prop :=
  vp_in a0 8 ∧ (((I 36 a0.toNatClampNeg) = 0 → (Q I J)) ∧ (¬ ((I 36 a0.toNatClampNeg) = 0) → (vp_in a0 8 ∧ (vp_in a0 8 ∧ (w_M_write (I 34 a0.toNatClampNeg) (J 35 a0.toNatClampNeg) I J (fun (I5 : am_MI) (J6 : am_MJ) => vp_in a0 8 ∧ (Q (am_ui I5 36 a0.toNatClampNeg (vp_nar .boolean (0 : Int32))) J6)) X)))))
set_option maxRecDepth 20000 in
theorem t_M_save {l : Launch} {D : va_G} {aC : Nat → ClassId} {ad : Nat → Nat} (hlt : l.stackTraces = false) {a0 : Int32} {I : am_MI} {J : am_MJ} {Q} {X} (h : w_M_save a0 I J Q X) : am_c l D aC yM_save (.code yM_save cM_save 2 none) (am_rm 5) 0 0 [.ref (ad 28), .int a0] (am_w ad aC I J) (am_lv ad aC Q) (am_lx ad aC X) := by
  unfold w_M_save at h
  refine am_of (ini := false) hlt (by decide +kernel) (Nat.le_of_ble_eq_true rfl) (fun h => nomatch h) ?_
  show am l D aC "BubbleBoxModel" cM_save 2 none false [] am_G0 (am_rm 5) 0 0 0 0 0 [(0, .ref (ad 28)), (1, .int a0)] [] (am_w ad aC I J) (am_lv ad aC Q) (am_lx ad aC X)
  refine am_aload_n 0 dM_save_0 rfl rfl ?_
  refine go_M_changed dM_save_1 (am_tw kw_673 rfl) ?_
  refine am_iload_n 1 dM_save_4 rfl rfl ?_
  obtain ⟨hi1, h⟩ := h
  refine ld_36 hi1 dM_save_5 ?_
  refine am_if_eq 32 dM_save_6 (by decide) (fun hc2 => ?_) (fun hc2 => ?_)
  · replace h := h.1 hc2
    exact am_vret dM_save_32 rfl (Nat.le_of_ble_eq_true rfl) (Nat.le_of_ble_eq_true rfl) ⟨_, _, rfl, rfl, h⟩
  · replace h := h.2 hc2
    refine am_aload_n 0 dM_save_9 rfl rfl ?_
    refine am_aload_n 0 dM_save_10 rfl rfl ?_
    refine go_M_windowPage dM_save_11 (am_tw kw_671 rfl) ?_
    refine am_iload_n 1 dM_save_14 rfl rfl ?_
    obtain ⟨hi3, h⟩ := h
    refine ld_34 hi3 dM_save_15 ?_
    refine am_aload_n 0 dM_save_16 rfl rfl ?_
    refine go_M_windowBits dM_save_17 (am_tw kw_672 rfl) ?_
    refine am_iload_n 1 dM_save_20 rfl rfl ?_
    obtain ⟨hi4, h⟩ := h
    refine ld_35 hi4 dM_save_21 ?_
    refine kV_M_write dM_save_22 (am_tw kw_774 rfl) (Nat.le_of_ble_eq_true rfl) ⟨Nat.le_of_ble_eq_true rfl, Nat.le_of_ble_eq_true rfl⟩ ⟨Nat.le_of_ble_eq_true rfl, Nat.le_of_ble_eq_true rfl⟩ ⟨Nat.le_of_ble_eq_true rfl, Nat.le_of_ble_eq_true rfl⟩ hlt h (fun I5 J6 h => ?_)
    refine am_aload_n 0 dM_save_25 rfl rfl ?_
    refine go_M_changed dM_save_26 (am_tw kw_673 rfl) ?_
    refine am_iload_n 1 dM_save_29 rfl rfl ?_
    refine am_iconst (v := 0) dM_save_30 (by decide) ?_
    obtain ⟨hi8, h⟩ := h
    refine st_36 hi8 dM_save_31 ?_
    exact am_vret dM_save_32 rfl (Nat.le_of_ble_eq_true rfl) (Nat.le_of_ble_eq_true rfl) ⟨_, _, rfl, rfl, h⟩
section
variable {l : Launch} {D : va_G} {aC : Nat → ClassId} {ad : Nat → Nat} {own : String} {cc : ByteArray} {nL : Nat} {ret : Option FieldType} {ini : Bool} {tb : List (Nat × Nat × Nat × Nat)} {G : State → (Nat → Prop) → Prop} {rm : Room} {mc ms k n pc idx : Nat} {L : List (Nat × Value)} {st rest : List Value} {I : am_MI} {J : am_MJ} {Q : Option Value → va_W → Prop} {X : String → va_W → Prop}
theorem kV_M_save {a0 : Int32} {K : am_MI → am_MJ → Prop} {X1 : String → am_MI → am_MJ → Prop} (hd : decode cc pc = .ok (.invokevirtual idx, 3)) (hlink : Cond.methodLink own idx yM_save ∈ am_TW) (hcat : (rest.map fun v => v.category).sum ≤ 8) (hR : 5 + 1 ≤ rm.frames ∧ 8 + (2 + 11) + 38 * 5 ≤ rm.locals) (hk : k + 1 ≤ rm.cells ∧ n + 6 ≤ rm.slots) (hm : k ≤ mc ∧ n ≤ ms) (hlt : l.stackTraces = false) (h : w_M_save a0 I J K X1) (kk : ∀ (I1 : am_MI) (J1 : am_MJ), K I1 J1 → am l D aC own cc nL ret ini [] G rm mc ms k n (pc + 3) L rest (am_w ad aC I1 J1) Q (am_lx ad aC X1)) : am l D aC own cc nL ret ini [] G rm mc ms k n pc L (.int a0 :: .ref (ad 28) :: rest) (am_w ad aC I J) Q (am_lx ad aC X1) := by
  refine am_callV 28 6 (As := [.int a0]) (N9 := 1) (t_M_save hlt h) hd rfl (am_w_at ad aC I J (by omega)) rfl hlink (am_tw kw_773 rfl) (am_tw kw_772 rfl) ks_53 (am_tw kw_7 rfl) (by decide +kernel) rfl hcat ⟨rfl, rfl⟩ hR hk (fun E ws1 hx => am_out (fun x hx => nomatch hx) (Nat.add_le_add_right hm.1 1) (Nat.add_le_add_right hm.2 6) hx) ?_
  intro v ws1 hq
  obtain ⟨I1, J1, rfl, rfl, hq⟩ := hq
  exact kk I1 J1 hq
end
def w_M_serve_229 (x1 : Int64) (xs0 : Int32) (I : am_MI) (J : am_MJ) (Q : Int32 → am_MI → am_MJ → Prop) (X : String → am_MI → am_MJ → Prop) (P32 : Int32 → am_MI → am_MJ → Prop) (P53 : Int32 → am_MI → am_MJ → Prop) : Prop :=
  (((am_ui I 28 0 xs0) 28 0) ≤ 0 → (Q (((J 28 5) - x1).toInt32) (am_ui (am_ui (am_ui I 28 0 xs0) 28 25 ((am_ui I 28 0 xs0) 28 20)) 28 20 (0 : Int32)) J)) ∧ (¬ (((am_ui I 28 0 xs0) 28 0) ≤ 0) → (Q 0 (am_ui I 28 0 xs0) J))
set_option maxRecDepth 20000 in
theorem t_M_serve_229 {l : Launch} {D : va_G} {aC : Nat → ClassId} {ad : Nat → Nat} (hlt : l.stackTraces = false) {x1 : Int64} {xs0 : Int32} {I : am_MI} {J : am_MJ} {Q} {X} {P32 : Int32 → am_MI → am_MJ → Prop} {P53 : Int32 → am_MI → am_MJ → Prop} (uP32 : ∀ (x3 : Int32) (I : am_MI) (J : am_MJ), P32 x3 I J → am l D aC "BubbleBoxModel" cM_serve 6 (some .int) false [] am_G0 (am_rm 5) 0 0 0 0 32 [(0, .ref (ad 28)), (1, .long x1), (3, .int x3)] [] (am_w ad aC I J) (am_li ad aC Q) (am_lx ad aC X)) (uP53 : ∀ (x3 : Int32) (I : am_MI) (J : am_MJ), P53 x3 I J → am l D aC "BubbleBoxModel" cM_serve 6 (some .int) false [] am_G0 (am_rm 5) 0 0 0 0 53 [(0, .ref (ad 28)), (1, .long x1), (3, .int x3)] [] (am_w ad aC I J) (am_li ad aC Q) (am_lx ad aC X)) (h : w_M_serve_229 x1 xs0 I J Q X P32 P53) : am l D aC "BubbleBoxModel" cM_serve 6 (some .int) false [] am_G0 (am_rm 5) 0 0 0 0 229 [(0, .ref (ad 28)), (1, .long x1)] [.int xs0, .ref (ad 28)] (am_w ad aC I J) (am_li ad aC Q) (am_lx ad aC X) := by
  unfold w_M_serve_229 at h
  refine po_M_code dM_serve_229 (am_tw kw_659 rfl) ?_
  refine am_aload_n 0 dM_serve_232 rfl rfl ?_
  refine go_M_code dM_serve_233 (am_tw kw_659 rfl) ?_
  refine am_if_le 241 dM_serve_236 (by decide) (fun hc9 => ?_) (fun hc9 => ?_)
  · replace h := h.1 hc9
    refine am_aload_n 0 dM_serve_241 rfl rfl ?_
    refine am_aload_n 0 dM_serve_242 rfl rfl ?_
    refine go_M_requests dM_serve_243 (am_tw kw_679 rfl) ?_
    refine po_M_answers dM_serve_246 (am_tw kw_684 rfl) ?_
    refine am_aload_n 0 dM_serve_249 rfl rfl ?_
    refine am_iconst (v := 0) dM_serve_250 (by decide) ?_
    refine po_M_requests dM_serve_251 (am_tw kw_679 rfl) ?_
    refine am_aload_n 0 dM_serve_254 rfl rfl ?_
    refine go_M_steps dM_serve_255 (am_tw kw_664 rfl) ?_
    refine am_lload_n 1 dM_serve_258 rfl rfl ?_
    refine am_lsub dM_serve_259 ?_
    refine am_l2i dM_serve_260 ?_
    exact am_iret dM_serve_261 rfl (Nat.le_of_ble_eq_true rfl) (Nat.le_of_ble_eq_true rfl) ⟨_, _, _, rfl, rfl, h⟩
  · replace h := h.2 hc9
    refine am_iconst (v := 0) dM_serve_239 (by decide) ?_
    exact am_iret dM_serve_240 rfl (Nat.le_of_ble_eq_true rfl) (Nat.le_of_ble_eq_true rfl) ⟨_, _, _, rfl, rfl, h⟩

def w_M_serve_67 (x1 : Int64) (x3 : Int32) (x4 : Int32) (x5 : Int32) (I : am_MI) (J : am_MJ) (Q : Int32 → am_MI → am_MJ → Prop) (X : String → am_MI → am_MJ → Prop) (P32 : Int32 → am_MI → am_MJ → Prop) (P53 : Int32 → am_MI → am_MJ → Prop) : Prop :=
  ∀ P67 : Int32 → Int32 → am_MI → am_MJ → Prop, (∀ (x4 : Int32) (x5 : Int32) (I : am_MI) (J : am_MJ), (((I 28 20) ≤ x5 → (vp_in x4 16 ∧ (vp_in x4 16 ∧ (vp_in x4 16 ∧ ((¬ ((am_ui I 43 x4.toNatClampNeg (vp_nar .boolean (1 : Int32))) 41 x4.toNatClampNeg) = 0 → (vp_in x4 16 ∧ (w_M_isFree ((am_ui I 43 x4.toNatClampNeg (vp_nar .boolean (1 : Int32))) 40 x4.toNatClampNeg) (am_ui I 43 x4.toNatClampNeg (vp_nar .boolean (1 : Int32))) (am_uj J 44 x4.toNatClampNeg (0 : Int64)) (fun (r18 : Int32) (I16 : am_MI) (J17 : am_MJ) => (r18 = 0 → (P53 (x3 + 1) I16 J17)) ∧ (¬ (r18 = 0) → (vp_in x4 16 ∧ (vp_in x4 16 ∧ (w_M_write (I16 40 x4.toNatClampNeg) (J17 42 x4.toNatClampNeg) I16 J17 (fun (I22 : am_MI) (J23 : am_MJ) => P53 (x3 + 1) I22 J23) X))))) X))) ∧ (((am_ui I 43 x4.toNatClampNeg (vp_nar .boolean (1 : Int32))) 41 x4.toNatClampNeg) = 0 → (vp_in x4 16 ∧ (w_M_read ((am_ui I 43 x4.toNatClampNeg (vp_nar .boolean (1 : Int32))) 40 x4.toNatClampNeg) (am_ui I 43 x4.toNatClampNeg (vp_nar .boolean (1 : Int32))) (am_uj J 44 x4.toNatClampNeg (0 : Int64)) (fun (r28 : Int64) (I26 : am_MI) (J27 : am_MJ) => vp_in x4 16 ∧ (P53 (x3 + 1) I26 (am_uj J27 44 x4.toNatClampNeg r28))) X)))))))) ∧ (¬ ((I 28 20) ≤ x5) → (vp_in x5 16 ∧ ((¬ (I 43 x5.toNatClampNeg) = 0 → (P67 x4 (x5 + 1) I J)) ∧ ((I 43 x5.toNatClampNeg) = 0 → ((x4 < 0 → (P67 x5 (x5 + 1) I J)) ∧ (¬ (x4 < 0) → (vp_in x5 16 ∧ (w_M_stepsTo (I 40 x5.toNatClampNeg) I J (fun (r36 : Int32) (I34 : am_MI) (J35 : am_MJ) => vp_in x4 16 ∧ (w_M_stepsTo (I34 40 x4.toNatClampNeg) I34 J35 (fun (r40 : Int32) (I38 : am_MI) (J39 : am_MJ) => (r40 ≤ r36 → (P67 x4 (x5 + 1) I38 J39)) ∧ (¬ (r40 ≤ r36) → (P67 x5 (x5 + 1) I38 J39))) X)) X))))))))) → P67 x4 x5 I J) → P67 x4 x5 I J
set_option maxRecDepth 20000 in
theorem t_M_serve_67 {l : Launch} {D : va_G} {aC : Nat → ClassId} {ad : Nat → Nat} (hlt : l.stackTraces = false) {x1 : Int64} {x3 : Int32} {x4 : Int32} {x5 : Int32} {I : am_MI} {J : am_MJ} {Q} {X} {P32 : Int32 → am_MI → am_MJ → Prop} {P53 : Int32 → am_MI → am_MJ → Prop} (uP32 : ∀ (x3 : Int32) (I : am_MI) (J : am_MJ), P32 x3 I J → am l D aC "BubbleBoxModel" cM_serve 6 (some .int) false [] am_G0 (am_rm 5) 0 0 0 0 32 [(0, .ref (ad 28)), (1, .long x1), (3, .int x3)] [] (am_w ad aC I J) (am_li ad aC Q) (am_lx ad aC X)) (uP53 : ∀ (x3 : Int32) (I : am_MI) (J : am_MJ), P53 x3 I J → am l D aC "BubbleBoxModel" cM_serve 6 (some .int) false [] am_G0 (am_rm 5) 0 0 0 0 53 [(0, .ref (ad 28)), (1, .long x1), (3, .int x3)] [] (am_w ad aC I J) (am_li ad aC Q) (am_lx ad aC X)) (h : w_M_serve_67 x1 x3 x4 x5 I J Q X P32 P53) : am l D aC "BubbleBoxModel" cM_serve 6 (some .int) false [] am_G0 (am_rm 5) 0 0 0 0 67 [(0, .ref (ad 28)), (1, .long x1), (3, .int x3), (4, .int x4), (5, .int x5)] [] (am_w ad aC I J) (am_li ad aC Q) (am_lx ad aC X) := by
  unfold w_M_serve_67 at h
  refine h (fun (x4 : Int32) (x5 : Int32) (I : am_MI) (J : am_MJ) => am l D aC "BubbleBoxModel" cM_serve 6 (some .int) false [] am_G0 (am_rm 5) 0 0 0 0 67 [(0, .ref (ad 28)), (1, .long x1), (3, .int x3), (4, .int x4), (5, .int x5)] [] (am_w ad aC I J) (am_li ad aC Q) (am_lx ad aC X)) (fun x4 x5 I J h => ?_)
  refine am_iload 4 dM_serve_67 rfl ?_
  refine am_aload_n 0 dM_serve_69 rfl rfl ?_
  refine go_M_requests dM_serve_70 (am_tw kw_679 rfl) ?_
  refine am_icmp_ge 131 dM_serve_73 (by decide) (fun hc10 => ?_) (fun hc10 => ?_)
  · replace h := h.1 hc10
    refine am_aload_n 0 dM_serve_131 rfl rfl ?_
    refine go_M_done dM_serve_132 (am_tw kw_683 rfl) ?_
    refine am_iload 3 dM_serve_135 rfl ?_
    refine am_iconst (v := 1) dM_serve_137 (by decide) ?_
    obtain ⟨hi11, h⟩ := h
    refine st_43 hi11 dM_serve_138 ?_
    refine am_aload_n 0 dM_serve_139 rfl rfl ?_
    refine go_M_answer dM_serve_140 (am_tw kw_685 rfl) ?_
    refine am_iload 3 dM_serve_143 rfl ?_
    refine am_lconst (v := 0) dM_serve_145 (by decide) ?_
    obtain ⟨hi12, h⟩ := h
    refine st_44 hi12 dM_serve_146 ?_
    refine am_aload_n 0 dM_serve_147 rfl rfl ?_
    refine go_M_asksWrite dM_serve_148 (am_tw kw_681 rfl) ?_
    refine am_iload 3 dM_serve_151 rfl ?_
    obtain ⟨hi13, h⟩ := h
    refine ld_41 hi13 dM_serve_153 ?_
    refine am_if_ne 178 dM_serve_154 (by decide) (fun hc14 => ?_) (fun hc14 => ?_)
    · replace h := h.1 hc14
      refine am_aload_n 0 dM_serve_178 rfl rfl ?_
      refine am_aload_n 0 dM_serve_179 rfl rfl ?_
      refine go_M_askedPage dM_serve_180 (am_tw kw_680 rfl) ?_
      refine am_iload 3 dM_serve_183 rfl ?_
      obtain ⟨hi15, h⟩ := h
      refine ld_40 hi15 dM_serve_185 ?_
      refine kV_M_isFree dM_serve_186 (am_tw kw_864 rfl) (Nat.le_of_ble_eq_true rfl) ⟨Nat.le_of_ble_eq_true rfl, Nat.le_of_ble_eq_true rfl⟩ ⟨Nat.le_of_ble_eq_true rfl, Nat.le_of_ble_eq_true rfl⟩ ⟨Nat.le_of_ble_eq_true rfl, Nat.le_of_ble_eq_true rfl⟩ hlt h (fun r18 I16 J17 h => ?_)
      refine am_if_eq 210 dM_serve_189 (by decide) (fun hc19 => ?_) (fun hc19 => ?_)
      · replace h := h.1 hc19
        refine am_iinc (j := 2) (v := x3 + 1) (L2 := [(3, .int (x3 + 1)), (0, .ref (ad 28)), (1, .long x1), (4, .int x4), (5, .int x5)]) dM_serve_210 rfl (congrArg (x3 + ·) (by decide : Int32.ofInt (1) = 1)) (Nat.le_of_ble_eq_true rfl) rfl ?_
        refine am_goto 53 dM_serve_213 (by decide) ?_
        exact am_sub [1, 2, 0] rfl (uP53 _ _ _ h)
      · replace h := h.2 hc19
        refine am_aload_n 0 dM_serve_192 rfl rfl ?_
        refine am_aload_n 0 dM_serve_193 rfl rfl ?_
        refine go_M_askedPage dM_serve_194 (am_tw kw_680 rfl) ?_
        refine am_iload 3 dM_serve_197 rfl ?_
        obtain ⟨hi20, h⟩ := h
        refine ld_40 hi20 dM_serve_199 ?_
        refine am_aload_n 0 dM_serve_200 rfl rfl ?_
        refine go_M_askedBits dM_serve_201 (am_tw kw_682 rfl) ?_
        refine am_iload 3 dM_serve_204 rfl ?_
        obtain ⟨hi21, h⟩ := h
        refine ld_42 hi21 dM_serve_206 ?_
        refine kV_M_write dM_serve_207 (am_tw kw_774 rfl) (Nat.le_of_ble_eq_true rfl) ⟨Nat.le_of_ble_eq_true rfl, Nat.le_of_ble_eq_true rfl⟩ ⟨Nat.le_of_ble_eq_true rfl, Nat.le_of_ble_eq_true rfl⟩ ⟨Nat.le_of_ble_eq_true rfl, Nat.le_of_ble_eq_true rfl⟩ hlt h (fun I22 J23 h => ?_)
        refine am_iinc (j := 2) (v := x3 + 1) (L2 := [(3, .int (x3 + 1)), (0, .ref (ad 28)), (1, .long x1), (4, .int x4), (5, .int x5)]) dM_serve_210 rfl (congrArg (x3 + ·) (by decide : Int32.ofInt (1) = 1)) (Nat.le_of_ble_eq_true rfl) rfl ?_
        refine am_goto 53 dM_serve_213 (by decide) ?_
        exact am_sub [1, 2, 0] rfl (uP53 _ _ _ h)
    · replace h := h.2 hc14
      refine am_aload_n 0 dM_serve_157 rfl rfl ?_
      refine go_M_answer dM_serve_158 (am_tw kw_685 rfl) ?_
      refine am_iload 3 dM_serve_161 rfl ?_
      refine am_aload_n 0 dM_serve_163 rfl rfl ?_
      refine am_aload_n 0 dM_serve_164 rfl rfl ?_
      refine go_M_askedPage dM_serve_165 (am_tw kw_680 rfl) ?_
      refine am_iload 3 dM_serve_168 rfl ?_
      obtain ⟨hi25, h⟩ := h
      refine ld_40 hi25 dM_serve_170 ?_
      refine kV_M_read dM_serve_171 (am_tw kw_872 rfl) (Nat.le_of_ble_eq_true rfl) ⟨Nat.le_of_ble_eq_true rfl, Nat.le_of_ble_eq_true rfl⟩ ⟨Nat.le_of_ble_eq_true rfl, Nat.le_of_ble_eq_true rfl⟩ ⟨Nat.le_of_ble_eq_true rfl, Nat.le_of_ble_eq_true rfl⟩ hlt h (fun r28 I26 J27 h => ?_)
      obtain ⟨hi29, h⟩ := h
      refine st_44 hi29 dM_serve_174 ?_
      refine am_goto 210 dM_serve_175 (by decide) ?_
      refine am_iinc (j := 2) (v := x3 + 1) (L2 := [(3, .int (x3 + 1)), (0, .ref (ad 28)), (1, .long x1), (4, .int x4), (5, .int x5)]) dM_serve_210 rfl (congrArg (x3 + ·) (by decide : Int32.ofInt (1) = 1)) (Nat.le_of_ble_eq_true rfl) rfl ?_
      refine am_goto 53 dM_serve_213 (by decide) ?_
      exact am_sub [1, 2, 0] rfl (uP53 _ _ _ h)
  · replace h := h.2 hc10
    refine am_aload_n 0 dM_serve_76 rfl rfl ?_
    refine go_M_done dM_serve_77 (am_tw kw_683 rfl) ?_
    refine am_iload 4 dM_serve_80 rfl ?_
    obtain ⟨hi30, h⟩ := h
    refine ld_43 hi30 dM_serve_82 ?_
    refine am_if_ne 121 dM_serve_83 (by decide) (fun hc31 => ?_) (fun hc31 => ?_)
    · replace h := h.1 hc31
      refine am_iload 3 dM_serve_121 rfl ?_
      refine am_istore (L2 := [(4, .int x4), (0, .ref (ad 28)), (1, .long x1), (3, .int x3), (5, .int x5)]) dM_serve_123 (Nat.le_of_ble_eq_true rfl) rfl ?_
      refine am_iinc (j := 4) (v := x5 + 1) (L2 := [(5, .int (x5 + 1)), (4, .int x4), (0, .ref (ad 28)), (1, .long x1), (3, .int x3)]) dM_serve_125 rfl (congrArg (x5 + ·) (by decide : Int32.ofInt (1) = 1)) (Nat.le_of_ble_eq_true rfl) rfl ?_
      refine am_goto 67 dM_serve_128 (by decide) ?_
      exact am_sub [2, 3, 4, 1, 0] rfl h
    · replace h := h.2 hc31
      refine am_iload 3 dM_serve_86 rfl ?_
      refine am_if_lt 116 dM_serve_88 (by decide) (fun hc32 => ?_) (fun hc32 => ?_)
      · replace h := h.1 hc32
        refine am_iload 4 dM_serve_116 rfl ?_
        refine am_goto 123 dM_serve_118 (by decide) ?_
        refine am_istore (L2 := [(4, .int x5), (0, .ref (ad 28)), (1, .long x1), (3, .int x3), (5, .int x5)]) dM_serve_123 (Nat.le_of_ble_eq_true rfl) rfl ?_
        refine am_iinc (j := 4) (v := x5 + 1) (L2 := [(5, .int (x5 + 1)), (4, .int x5), (0, .ref (ad 28)), (1, .long x1), (3, .int x3)]) dM_serve_125 rfl (congrArg (x5 + ·) (by decide : Int32.ofInt (1) = 1)) (Nat.le_of_ble_eq_true rfl) rfl ?_
        refine am_goto 67 dM_serve_128 (by decide) ?_
        exact am_sub [2, 3, 4, 1, 0] rfl h
      · replace h := h.2 hc32
        refine am_aload_n 0 dM_serve_91 rfl rfl ?_
        refine am_aload_n 0 dM_serve_92 rfl rfl ?_
        refine go_M_askedPage dM_serve_93 (am_tw kw_680 rfl) ?_
        refine am_iload 4 dM_serve_96 rfl ?_
        obtain ⟨hi33, h⟩ := h
        refine ld_40 hi33 dM_serve_98 ?_
        refine kV_M_stepsTo dM_serve_99 (am_tw kw_786 rfl) (Nat.le_of_ble_eq_true rfl) ⟨Nat.le_of_ble_eq_true rfl, Nat.le_of_ble_eq_true rfl⟩ ⟨Nat.le_of_ble_eq_true rfl, Nat.le_of_ble_eq_true rfl⟩ ⟨Nat.le_of_ble_eq_true rfl, Nat.le_of_ble_eq_true rfl⟩ hlt h (fun r36 I34 J35 h => ?_)
        refine am_aload_n 0 dM_serve_102 rfl rfl ?_
        refine am_aload_n 0 dM_serve_103 rfl rfl ?_
        refine go_M_askedPage dM_serve_104 (am_tw kw_680 rfl) ?_
        refine am_iload 3 dM_serve_107 rfl ?_
        obtain ⟨hi37, h⟩ := h
        refine ld_40 hi37 dM_serve_109 ?_
        refine kV_M_stepsTo dM_serve_110 (am_tw kw_786 rfl) (Nat.le_of_ble_eq_true rfl) ⟨Nat.le_of_ble_eq_true rfl, Nat.le_of_ble_eq_true rfl⟩ ⟨Nat.le_of_ble_eq_true rfl, Nat.le_of_ble_eq_true rfl⟩ ⟨Nat.le_of_ble_eq_true rfl, Nat.le_of_ble_eq_true rfl⟩ hlt h (fun r40 I38 J39 h => ?_)
        refine am_icmp_ge 121 dM_serve_113 (by decide) (fun hc41 => ?_) (fun hc41 => ?_)
        · replace h := h.1 hc41
          refine am_iload 3 dM_serve_121 rfl ?_
          refine am_istore (L2 := [(4, .int x4), (0, .ref (ad 28)), (1, .long x1), (3, .int x3), (5, .int x5)]) dM_serve_123 (Nat.le_of_ble_eq_true rfl) rfl ?_
          refine am_iinc (j := 4) (v := x5 + 1) (L2 := [(5, .int (x5 + 1)), (4, .int x4), (0, .ref (ad 28)), (1, .long x1), (3, .int x3)]) dM_serve_125 rfl (congrArg (x5 + ·) (by decide : Int32.ofInt (1) = 1)) (Nat.le_of_ble_eq_true rfl) rfl ?_
          refine am_goto 67 dM_serve_128 (by decide) ?_
          exact am_sub [2, 3, 4, 1, 0] rfl h
        · replace h := h.2 hc41
          refine am_iload 4 dM_serve_116 rfl ?_
          refine am_goto 123 dM_serve_118 (by decide) ?_
          refine am_istore (L2 := [(4, .int x5), (0, .ref (ad 28)), (1, .long x1), (3, .int x3), (5, .int x5)]) dM_serve_123 (Nat.le_of_ble_eq_true rfl) rfl ?_
          refine am_iinc (j := 4) (v := x5 + 1) (L2 := [(5, .int (x5 + 1)), (4, .int x5), (0, .ref (ad 28)), (1, .long x1), (3, .int x3)]) dM_serve_125 rfl (congrArg (x5 + ·) (by decide : Int32.ofInt (1) = 1)) (Nat.le_of_ble_eq_true rfl) rfl ?_
          refine am_goto 67 dM_serve_128 (by decide) ?_
          exact am_sub [2, 3, 4, 1, 0] rfl h

def w_M_serve_53 (x1 : Int64) (x3 : Int32) (I : am_MI) (J : am_MJ) (Q : Int32 → am_MI → am_MJ → Prop) (X : String → am_MI → am_MJ → Prop) (P32 : Int32 → am_MI → am_MJ → Prop) : Prop :=
  ∀ P53 : Int32 → am_MI → am_MJ → Prop, (∀ (x3 : Int32) (I : am_MI) (J : am_MJ), (((I 28 20) ≤ x3 → (((I 28 7) = 0 → (w_M_serve_229 x1 (1 : Int32) I J Q X P32 P53)) ∧ (¬ ((I 28 7) = 0) → (w_M_serve_229 x1 (0 : Int32) I J Q X P32 P53)))) ∧ (¬ ((I 28 20) ≤ x3) → (w_M_serve_67 x1 x3 ((-1) : Int32) (0 : Int32) I J Q X P32 P53))) → P53 x3 I J) → P53 x3 I J
set_option maxRecDepth 20000 in
theorem t_M_serve_53 {l : Launch} {D : va_G} {aC : Nat → ClassId} {ad : Nat → Nat} (hlt : l.stackTraces = false) {x1 : Int64} {x3 : Int32} {I : am_MI} {J : am_MJ} {Q} {X} {P32 : Int32 → am_MI → am_MJ → Prop} (uP32 : ∀ (x3 : Int32) (I : am_MI) (J : am_MJ), P32 x3 I J → am l D aC "BubbleBoxModel" cM_serve 6 (some .int) false [] am_G0 (am_rm 5) 0 0 0 0 32 [(0, .ref (ad 28)), (1, .long x1), (3, .int x3)] [] (am_w ad aC I J) (am_li ad aC Q) (am_lx ad aC X)) (h : w_M_serve_53 x1 x3 I J Q X P32) : am l D aC "BubbleBoxModel" cM_serve 6 (some .int) false [] am_G0 (am_rm 5) 0 0 0 0 53 [(0, .ref (ad 28)), (1, .long x1), (3, .int x3)] [] (am_w ad aC I J) (am_li ad aC Q) (am_lx ad aC X) := by
  unfold w_M_serve_53 at h
  refine h (fun (x3 : Int32) (I : am_MI) (J : am_MJ) => am l D aC "BubbleBoxModel" cM_serve 6 (some .int) false [] am_G0 (am_rm 5) 0 0 0 0 53 [(0, .ref (ad 28)), (1, .long x1), (3, .int x3)] [] (am_w ad aC I J) (am_li ad aC Q) (am_lx ad aC X)) (fun x3 I J h => ?_)
  refine am_iload_n 2 dM_serve_53 rfl rfl ?_
  refine am_aload_n 0 dM_serve_54 rfl rfl ?_
  refine go_M_requests dM_serve_55 (am_tw kw_679 rfl) ?_
  refine am_icmp_ge 216 dM_serve_58 (by decide) (fun hc7 => ?_) (fun hc7 => ?_)
  · replace h := h.1 hc7
    refine am_aload_n 0 dM_serve_216 rfl rfl ?_
    refine am_aload_n 0 dM_serve_217 rfl rfl ?_
    refine go_M_on dM_serve_218 (am_tw kw_666 rfl) ?_
    refine am_if_eq 228 dM_serve_221 (by decide) (fun hc8 => ?_) (fun hc8 => ?_)
    · replace h := h.1 hc8
      refine am_iconst (v := 1) dM_serve_228 (by decide) ?_
      exact am_sub [0, 1] rfl (t_M_serve_229 hlt uP32 (fun _ _ _ h => h) h)
    · replace h := h.2 hc8
      refine am_iconst (v := 0) dM_serve_224 (by decide) ?_
      refine am_goto 229 dM_serve_225 (by decide) ?_
      exact am_sub [0, 1] rfl (t_M_serve_229 hlt uP32 (fun _ _ _ h => h) h)
  · replace h := h.2 hc7
    refine am_iconst (v := (-1)) dM_serve_61 (by decide) ?_
    refine am_istore (L2 := [(4, .int (-1)), (0, .ref (ad 28)), (1, .long x1), (3, .int x3)]) dM_serve_62 (Nat.le_of_ble_eq_true rfl) rfl ?_
    refine am_iconst (v := 0) dM_serve_64 (by decide) ?_
    refine am_istore (L2 := [(5, .int 0), (4, .int (-1)), (0, .ref (ad 28)), (1, .long x1), (3, .int x3)]) dM_serve_65 (Nat.le_of_ble_eq_true rfl) rfl ?_
    exact am_sub [2, 3, 4, 1, 0] rfl (t_M_serve_67 hlt uP32 (fun _ _ _ h => h) h)

def w_M_serve_32 (x1 : Int64) (x3 : Int32) (I : am_MI) (J : am_MJ) (Q : Int32 → am_MI → am_MJ → Prop) (X : String → am_MI → am_MJ → Prop) : Prop :=
  ∀ P32 : Int32 → am_MI → am_MJ → Prop, (∀ (x3 : Int32) (I : am_MI) (J : am_MJ), (((16 : Int32) ≤ x3 → (w_M_serve_53 x1 (0 : Int32) I J Q X P32)) ∧ (¬ ((16 : Int32) ≤ x3) → (vp_in x3 16 ∧ (P32 (x3 + 1) (am_ui I 43 x3.toNatClampNeg (vp_nar .boolean (0 : Int32))) J)))) → P32 x3 I J) → P32 x3 I J
set_option maxRecDepth 20000 in
theorem t_M_serve_32 {l : Launch} {D : va_G} {aC : Nat → ClassId} {ad : Nat → Nat} (hlt : l.stackTraces = false) {x1 : Int64} {x3 : Int32} {I : am_MI} {J : am_MJ} {Q} {X} (h : w_M_serve_32 x1 x3 I J Q X) : am l D aC "BubbleBoxModel" cM_serve 6 (some .int) false [] am_G0 (am_rm 5) 0 0 0 0 32 [(0, .ref (ad 28)), (1, .long x1), (3, .int x3)] [] (am_w ad aC I J) (am_li ad aC Q) (am_lx ad aC X) := by
  unfold w_M_serve_32 at h
  refine h (fun (x3 : Int32) (I : am_MI) (J : am_MJ) => am l D aC "BubbleBoxModel" cM_serve 6 (some .int) false [] am_G0 (am_rm 5) 0 0 0 0 32 [(0, .ref (ad 28)), (1, .long x1), (3, .int x3)] [] (am_w ad aC I J) (am_li ad aC Q) (am_lx ad aC X)) (fun x3 I J h => ?_)
  refine am_iload_n 2 dM_serve_32 rfl rfl ?_
  refine am_bipush (v := 16) dM_serve_33 (by decide) ?_
  refine am_icmp_ge 51 dM_serve_35 (by decide) (fun hc6 => ?_) (fun hc6 => ?_)
  · replace h := h.1 hc6
    refine am_iconst (v := 0) dM_serve_51 (by decide) ?_
    refine am_istore_n (L2 := [(3, .int 0), (0, .ref (ad 28)), (1, .long x1)]) dM_serve_52 rfl (Nat.le_of_ble_eq_true rfl) rfl ?_
    exact am_sub [1, 2, 0] rfl (t_M_serve_53 hlt (fun _ _ _ h => h) h)
  · replace h := h.2 hc6
    refine am_aload_n 0 dM_serve_38 rfl rfl ?_
    refine go_M_done dM_serve_39 (am_tw kw_683 rfl) ?_
    refine am_iload_n 2 dM_serve_42 rfl rfl ?_
    refine am_iconst (v := 0) dM_serve_43 (by decide) ?_
    obtain ⟨hi42, h⟩ := h
    refine st_43 hi42 dM_serve_44 ?_
    refine am_iinc (j := 2) (v := x3 + 1) (L2 := [(3, .int (x3 + 1)), (0, .ref (ad 28)), (1, .long x1)]) dM_serve_45 rfl (congrArg (x3 + ·) (by decide : Int32.ofInt (1) = 1)) (Nat.le_of_ble_eq_true rfl) rfl ?_
    refine am_goto 32 dM_serve_48 (by decide) ?_
    exact am_sub [1, 2, 0] rfl h

def w_M_serve_13 (xs0 : Int32) (I : am_MI) (J : am_MJ) (Q : Int32 → am_MI → am_MJ → Prop) (X : String → am_MI → am_MJ → Prop) : Prop :=
  (((am_ui I 28 0 xs0) 28 0) ≤ 0 → (w_M_serve_32 (J 28 5) (0 : Int32) (am_ui I 28 0 xs0) J Q X)) ∧ (¬ (((am_ui I 28 0 xs0) 28 0) ≤ 0) → (Q 0 (am_ui I 28 0 xs0) J))
set_option maxRecDepth 20000 in
theorem t_M_serve_13 {l : Launch} {D : va_G} {aC : Nat → ClassId} {ad : Nat → Nat} (hlt : l.stackTraces = false) {xs0 : Int32} {I : am_MI} {J : am_MJ} {Q} {X} (h : w_M_serve_13 xs0 I J Q X) : am l D aC "BubbleBoxModel" cM_serve 6 (some .int) false [] am_G0 (am_rm 5) 0 0 0 0 13 [(0, .ref (ad 28))] [.int xs0, .ref (ad 28)] (am_w ad aC I J) (am_li ad aC Q) (am_lx ad aC X) := by
  unfold w_M_serve_13 at h
  refine po_M_code dM_serve_13 (am_tw kw_659 rfl) ?_
  refine am_aload_n 0 dM_serve_16 rfl rfl ?_
  refine go_M_code dM_serve_17 (am_tw kw_659 rfl) ?_
  refine am_if_le 25 dM_serve_20 (by decide) (fun hc5 => ?_) (fun hc5 => ?_)
  · replace h := h.1 hc5
    refine am_aload_n 0 dM_serve_25 rfl rfl ?_
    refine go_M_steps dM_serve_26 (am_tw kw_664 rfl) ?_
    refine am_lstore_n (L2 := [(1, .long (J 28 5)), (0, .ref (ad 28))]) dM_serve_29 rfl (Nat.le_of_ble_eq_true rfl) rfl ?_
    refine am_iconst (v := 0) dM_serve_30 (by decide) ?_
    refine am_istore_n (L2 := [(3, .int 0), (1, .long (J 28 5)), (0, .ref (ad 28))]) dM_serve_31 rfl (Nat.le_of_ble_eq_true rfl) rfl ?_
    exact am_sub [2, 1, 0] rfl (t_M_serve_32 hlt h)
  · replace h := h.2 hc5
    refine am_iconst (v := 0) dM_serve_23 (by decide) ?_
    exact am_iret dM_serve_24 rfl (Nat.le_of_ble_eq_true rfl) (Nat.le_of_ble_eq_true rfl) ⟨_, _, _, rfl, rfl, h⟩

def w_M_serve (I : am_MI) (J : am_MJ) (Q : Int32 → am_MI → am_MJ → Prop) (X : String → am_MI → am_MJ → Prop) : Prop :=
  w_M_isReady I J (fun (r3 : Int32) (I1 : am_MI) (J2 : am_MJ) => (r3 = 0 → (w_M_serve_13 (1 : Int32) I1 J2 Q X)) ∧ (¬ (r3 = 0) → (w_M_serve_13 (0 : Int32) I1 J2 Q X))) X
set_option maxRecDepth 20000 in
theorem t_M_serve {l : Launch} {D : va_G} {aC : Nat → ClassId} {ad : Nat → Nat} (hlt : l.stackTraces = false) {I : am_MI} {J : am_MJ} {Q} {X} (h : w_M_serve I J Q X) : am_c l D aC yM_serve (.code yM_serve cM_serve 6 (some .int)) (am_rm 5) 0 0 [.ref (ad 28)] (am_w ad aC I J) (am_li ad aC Q) (am_lx ad aC X) := by
  unfold w_M_serve at h
  refine am_of (ini := false) hlt (by decide +kernel) (Nat.le_of_ble_eq_true rfl) (fun h => nomatch h) ?_
  show am l D aC "BubbleBoxModel" cM_serve 6 (some .int) false [] am_G0 (am_rm 5) 0 0 0 0 0 [(0, .ref (ad 28))] [] (am_w ad aC I J) (am_li ad aC Q) (am_lx ad aC X)
  refine am_aload_n 0 dM_serve_0 rfl rfl ?_
  refine am_aload_n 0 dM_serve_1 rfl rfl ?_
  refine kV_M_isReady dM_serve_2 (am_tw kw_836 rfl) (Nat.le_of_ble_eq_true rfl) ⟨Nat.le_of_ble_eq_true rfl, Nat.le_of_ble_eq_true rfl⟩ ⟨Nat.le_of_ble_eq_true rfl, Nat.le_of_ble_eq_true rfl⟩ ⟨Nat.le_of_ble_eq_true rfl, Nat.le_of_ble_eq_true rfl⟩ hlt h (fun r3 I1 J2 h => ?_)
  refine am_if_eq 12 dM_serve_5 (by decide) (fun hc4 => ?_) (fun hc4 => ?_)
  · replace h := h.1 hc4
    refine am_iconst (v := 1) dM_serve_12 (by decide) ?_
    exact am_sub [0] rfl (t_M_serve_13 hlt h)
  · replace h := h.2 hc4
    refine am_iconst (v := 0) dM_serve_8 (by decide) ?_
    refine am_goto 13 dM_serve_9 (by decide) ?_
    exact am_sub [0] rfl (t_M_serve_13 hlt h)
section
variable {l : Launch} {D : va_G} {aC : Nat → ClassId} {ad : Nat → Nat} {own : String} {cc : ByteArray} {nL : Nat} {ret : Option FieldType} {ini : Bool} {tb : List (Nat × Nat × Nat × Nat)} {G : State → (Nat → Prop) → Prop} {rm : Room} {mc ms k n pc idx : Nat} {L : List (Nat × Value)} {st rest : List Value} {I : am_MI} {J : am_MJ} {Q : Option Value → va_W → Prop} {X : String → va_W → Prop}
theorem kV_M_serve {K : Int32 → am_MI → am_MJ → Prop} {X1 : String → am_MI → am_MJ → Prop} (hd : decode cc pc = .ok (.invokevirtual idx, 3)) (hlink : Cond.methodLink own idx yM_serve ∈ am_TW) (hcat : (rest.map fun v => v.category).sum ≤ 8) (hR : 5 + 1 ≤ rm.frames ∧ 8 + (6 + 11) + 38 * 5 ≤ rm.locals) (hk : k + 1 ≤ rm.cells ∧ n + 6 ≤ rm.slots) (hm : k ≤ mc ∧ n ≤ ms) (hlt : l.stackTraces = false) (h : w_M_serve I J K X1) (kk : ∀ (r : Int32) (I1 : am_MI) (J1 : am_MJ), K r I1 J1 → am l D aC own cc nL ret ini [] G rm mc ms k n (pc + 3) L (.int r :: rest) (am_w ad aC I1 J1) Q (am_lx ad aC X1)) : am l D aC own cc nL ret ini [] G rm mc ms k n pc L (.ref (ad 28) :: rest) (am_w ad aC I J) Q (am_lx ad aC X1) := by
  refine am_callV 28 6 (As := []) (N9 := 0) (t_M_serve hlt h) hd rfl (am_w_at ad aC I J (by omega)) rfl hlink (am_tw kw_912 rfl) (am_tw kw_910 rfl) (am_tw kw_911 rfl) (am_tw kw_7 rfl) (by decide +kernel) rfl hcat ⟨rfl, rfl⟩ hR hk (fun E ws1 hx => am_out (fun x hx => nomatch hx) (Nat.add_le_add_right hm.1 1) (Nat.add_le_add_right hm.2 6) hx) ?_
  intro v ws1 hq
  obtain ⟨r, I1, J1, rfl, rfl, hq⟩ := hq
  exact kk r I1 J1 hq
end

def w_M_load (a0 : Int32) (a1 : Int32) (I : am_MI) (J : am_MJ) (Q : am_MI → am_MJ → Prop) (X : String → am_MI → am_MJ → Prop) : Prop :=
  vp_in a0 8 ∧ (((I 34 a0.toNatClampNeg) = a1 → (Q I J)) ∧ (¬ ((I 34 a0.toNatClampNeg) = a1) → (w_M_save a0 I J (fun (I3 : am_MI) (J4 : am_MJ) => w_M_read a1 I3 J4 (fun (r8 : Int64) (I6 : am_MI) (J7 : am_MJ) => vp_in a0 8 ∧ (vp_in a0 8 ∧ (Q (am_ui I6 34 a0.toNatClampNeg a1) (am_uj J7 35 a0.toNatClampNeg r8)))) X) X)))
set_option maxRecDepth 20000 in
theorem t_M_load {l : Launch} {D : va_G} {aC : Nat → ClassId} {ad : Nat → Nat} (hlt : l.stackTraces = false) {a0 : Int32} {a1 : Int32} {I : am_MI} {J : am_MJ} {Q} {X} (h : w_M_load a0 a1 I J Q X) : am_c l D aC yM_load (.code yM_load cM_load 3 none) (am_rm 6) 0 0 [.ref (ad 28), .int a0, .int a1] (am_w ad aC I J) (am_lv ad aC Q) (am_lx ad aC X) := by
  unfold w_M_load at h
  refine am_of (ini := false) hlt (by decide +kernel) (Nat.le_of_ble_eq_true rfl) (fun h => nomatch h) ?_
  show am l D aC "BubbleBoxModel" cM_load 3 none false [] am_G0 (am_rm 6) 0 0 0 0 0 [(0, .ref (ad 28)), (1, .int a0), (2, .int a1)] [] (am_w ad aC I J) (am_lv ad aC Q) (am_lx ad aC X)
  refine am_aload_n 0 dM_load_0 rfl rfl ?_
  refine go_M_windowPage dM_load_1 (am_tw kw_671 rfl) ?_
  refine am_iload_n 1 dM_load_4 rfl rfl ?_
  obtain ⟨hi1, h⟩ := h
  refine ld_34 hi1 dM_load_5 ?_
  refine am_iload_n 2 dM_load_6 rfl rfl ?_
  refine am_icmp_eq 33 dM_load_7 (by decide) (fun hc2 => ?_) (fun hc2 => ?_)
  · replace h := h.1 hc2
    exact am_vret dM_load_33 rfl (Nat.le_of_ble_eq_true rfl) (Nat.le_of_ble_eq_true rfl) ⟨_, _, rfl, rfl, h⟩
  · replace h := h.2 hc2
    refine am_aload_n 0 dM_load_10 rfl rfl ?_
    refine am_iload_n 1 dM_load_11 rfl rfl ?_
    refine kV_M_save dM_load_12 (am_tw kw_770 rfl) (Nat.le_of_ble_eq_true rfl) ⟨Nat.le_of_ble_eq_true rfl, Nat.le_of_ble_eq_true rfl⟩ ⟨Nat.le_of_ble_eq_true rfl, Nat.le_of_ble_eq_true rfl⟩ ⟨Nat.le_of_ble_eq_true rfl, Nat.le_of_ble_eq_true rfl⟩ hlt h (fun I3 J4 h => ?_)
    refine am_aload_n 0 dM_load_15 rfl rfl ?_
    refine go_M_windowBits dM_load_16 (am_tw kw_672 rfl) ?_
    refine am_iload_n 1 dM_load_19 rfl rfl ?_
    refine am_aload_n 0 dM_load_20 rfl rfl ?_
    refine am_iload_n 2 dM_load_21 rfl rfl ?_
    refine kV_M_read dM_load_22 (am_tw kw_872 rfl) (Nat.le_of_ble_eq_true rfl) ⟨Nat.le_of_ble_eq_true rfl, Nat.le_of_ble_eq_true rfl⟩ ⟨Nat.le_of_ble_eq_true rfl, Nat.le_of_ble_eq_true rfl⟩ ⟨Nat.le_of_ble_eq_true rfl, Nat.le_of_ble_eq_true rfl⟩ hlt h (fun r8 I6 J7 h => ?_)
    obtain ⟨hi9, h⟩ := h
    refine st_35 hi9 dM_load_25 ?_
    refine am_aload_n 0 dM_load_26 rfl rfl ?_
    refine go_M_windowPage dM_load_27 (am_tw kw_671 rfl) ?_
    refine am_iload_n 1 dM_load_30 rfl rfl ?_
    refine am_iload_n 2 dM_load_31 rfl rfl ?_
    obtain ⟨hi10, h⟩ := h
    refine st_34 hi10 dM_load_32 ?_
    exact am_vret dM_load_33 rfl (Nat.le_of_ble_eq_true rfl) (Nat.le_of_ble_eq_true rfl) ⟨_, _, rfl, rfl, h⟩
section
variable {l : Launch} {D : va_G} {aC : Nat → ClassId} {ad : Nat → Nat} {own : String} {cc : ByteArray} {nL : Nat} {ret : Option FieldType} {ini : Bool} {tb : List (Nat × Nat × Nat × Nat)} {G : State → (Nat → Prop) → Prop} {rm : Room} {mc ms k n pc idx : Nat} {L : List (Nat × Value)} {st rest : List Value} {I : am_MI} {J : am_MJ} {Q : Option Value → va_W → Prop} {X : String → va_W → Prop}
theorem kV_M_load {a0 : Int32} {a1 : Int32} {K : am_MI → am_MJ → Prop} {X1 : String → am_MI → am_MJ → Prop} (hd : decode cc pc = .ok (.invokevirtual idx, 3)) (hlink : Cond.methodLink own idx yM_load ∈ am_TW) (hcat : (rest.map fun v => v.category).sum ≤ 8) (hR : 6 + 1 ≤ rm.frames ∧ 8 + (3 + 11) + 38 * 6 ≤ rm.locals) (hk : k + 1 ≤ rm.cells ∧ n + 6 ≤ rm.slots) (hm : k ≤ mc ∧ n ≤ ms) (hlt : l.stackTraces = false) (h : w_M_load a0 a1 I J K X1) (kk : ∀ (I1 : am_MI) (J1 : am_MJ), K I1 J1 → am l D aC own cc nL ret ini [] G rm mc ms k n (pc + 3) L rest (am_w ad aC I1 J1) Q (am_lx ad aC X1)) : am l D aC own cc nL ret ini [] G rm mc ms k n pc L (.int a1 :: .int a0 :: .ref (ad 28) :: rest) (am_w ad aC I J) Q (am_lx ad aC X1) := by
  refine am_callV 28 6 (As := [.int a0, .int a1]) (N9 := 2) (t_M_load hlt h) hd rfl (am_w_at ad aC I J (by omega)) rfl hlink (am_tw kw_871 rfl) (am_tw kw_870 rfl) ks_72 (am_tw kw_7 rfl) (by decide +kernel) rfl hcat ⟨rfl, rfl⟩ hR hk (fun E ws1 hx => am_out (fun x hx => nomatch hx) (Nat.add_le_add_right hm.1 1) (Nat.add_le_add_right hm.2 6) hx) ?_
  intro v ws1 hq
  obtain ⟨I1, J1, rfl, rfl, hq⟩ := hq
  exact kk I1 J1 hq
end
def w_M_saveAll_63 (x1 : Int32) (x2 : Int32) (x3 : Int32) (x4 : Int32) (x5 : Int64) (x7 : Int32) (I : am_MI) (J : am_MJ) (Q : am_MI → am_MJ → Prop) (X : String → am_MI → am_MJ → Prop) (P2 : Int32 → am_MI → am_MJ → Prop) (P44 : Int32 → am_MI → am_MJ → Prop) : Prop :=
  ∀ P63 : Int64 → Int32 → am_MI → am_MJ → Prop, (∀ (x5 : Int64) (x7 : Int32) (I : am_MI) (J : am_MJ), ((x7 < 0 → (w_M_write (((20 : Int32) * x1) + x4) x5 I J (fun (I10 : am_MI) (J11 : am_MJ) => P44 (x3 + 1) I10 J11) X)) ∧ (¬ (x7 < 0) → (vp_in (((8 : Int32) * x4) + x7) 160 ∧ (P63 ((x5 <<< ((8 : Int32).toInt64 &&& 63)) ||| ((I 38 (((8 : Int32) * x4) + x7).toNatClampNeg).toInt64)) (x7 + (-1)) I J)))) → P63 x5 x7 I J) → P63 x5 x7 I J
set_option maxRecDepth 20000 in
theorem t_M_saveAll_63 {l : Launch} {D : va_G} {aC : Nat → ClassId} {ad : Nat → Nat} (hlt : l.stackTraces = false) {x1 : Int32} {x2 : Int32} {x3 : Int32} {x4 : Int32} {x5 : Int64} {x7 : Int32} {I : am_MI} {J : am_MJ} {Q} {X} {P2 : Int32 → am_MI → am_MJ → Prop} {P44 : Int32 → am_MI → am_MJ → Prop} (uP2 : ∀ (x1 : Int32) (I : am_MI) (J : am_MJ), P2 x1 I J → am l D aC "BubbleBoxModel" cM_saveAll 8 none false [] am_G0 (am_rm 6) 0 0 0 0 2 [(0, .ref (ad 28)), (1, .int x1)] [] (am_w ad aC I J) (am_lv ad aC Q) (am_lx ad aC X)) (uP44 : ∀ (x3 : Int32) (I : am_MI) (J : am_MJ), P44 x3 I J → am l D aC "BubbleBoxModel" cM_saveAll 8 none false [] am_G0 (am_rm 6) 0 0 0 0 44 [(0, .ref (ad 28)), (1, .int x1), (2, .int x2), (3, .int x3)] [] (am_w ad aC I J) (am_lv ad aC Q) (am_lx ad aC X)) (h : w_M_saveAll_63 x1 x2 x3 x4 x5 x7 I J Q X P2 P44) : am l D aC "BubbleBoxModel" cM_saveAll 8 none false [] am_G0 (am_rm 6) 0 0 0 0 63 [(0, .ref (ad 28)), (1, .int x1), (2, .int x2), (3, .int x3), (4, .int x4), (5, .long x5), (7, .int x7)] [] (am_w ad aC I J) (am_lv ad aC Q) (am_lx ad aC X) := by
  unfold w_M_saveAll_63 at h
  refine h (fun (x5 : Int64) (x7 : Int32) (I : am_MI) (J : am_MJ) => am l D aC "BubbleBoxModel" cM_saveAll 8 none false [] am_G0 (am_rm 6) 0 0 0 0 63 [(0, .ref (ad 28)), (1, .int x1), (2, .int x2), (3, .int x3), (4, .int x4), (5, .long x5), (7, .int x7)] [] (am_w ad aC I J) (am_lv ad aC Q) (am_lx ad aC X)) (fun x5 x7 I J h => ?_)
  refine am_iload 6 dM_saveAll_63 rfl ?_
  refine am_if_lt 96 dM_saveAll_65 (by decide) (fun hc9 => ?_) (fun hc9 => ?_)
  · replace h := h.1 hc9
    refine am_aload_n 0 dM_saveAll_96 rfl rfl ?_
    refine am_bipush (v := 20) dM_saveAll_97 (by decide) ?_
    refine am_iload_n 1 dM_saveAll_99 rfl rfl ?_
    refine am_imul dM_saveAll_100 ?_
    refine am_iload 4 dM_saveAll_101 rfl ?_
    refine am_iadd dM_saveAll_103 ?_
    refine am_lload 5 dM_saveAll_104 rfl ?_
    refine kV_M_write dM_saveAll_106 (am_tw kw_774 rfl) (Nat.le_of_ble_eq_true rfl) ⟨Nat.le_of_ble_eq_true rfl, Nat.le_of_ble_eq_true rfl⟩ ⟨Nat.le_of_ble_eq_true rfl, Nat.le_of_ble_eq_true rfl⟩ ⟨Nat.le_of_ble_eq_true rfl, Nat.le_of_ble_eq_true rfl⟩ hlt h (fun I10 J11 h => ?_)
    refine am_iinc (j := 3) (v := x3 + 1) (L2 := [(3, .int (x3 + 1)), (0, .ref (ad 28)), (1, .int x1), (2, .int x2), (4, .int x4), (5, .long x5), (7, .int x7)]) dM_saveAll_109 rfl (congrArg (x3 + ·) (by decide : Int32.ofInt (1) = 1)) (Nat.le_of_ble_eq_true rfl) rfl ?_
    refine am_goto 44 dM_saveAll_112 (by decide) ?_
    exact am_sub [1, 2, 3, 0] rfl (uP44 _ _ _ h)
  · replace h := h.2 hc9
    refine am_lload 5 dM_saveAll_68 rfl ?_
    refine am_bipush (v := 8) dM_saveAll_70 (by decide) ?_
    refine am_lshl dM_saveAll_72 ?_
    refine am_aload_n 0 dM_saveAll_73 rfl rfl ?_
    refine go_M_image dM_saveAll_74 (am_tw kw_677 rfl) ?_
    refine am_bipush (v := 8) dM_saveAll_77 (by decide) ?_
    refine am_iload 4 dM_saveAll_79 rfl ?_
    refine am_imul dM_saveAll_81 ?_
    refine am_iload 6 dM_saveAll_82 rfl ?_
    refine am_iadd dM_saveAll_84 ?_
    obtain ⟨hi13, h⟩ := h
    refine ld_38 hi13 dM_saveAll_85 ?_
    refine am_i2l dM_saveAll_86 ?_
    refine am_lor dM_saveAll_87 ?_
    refine am_lstore (L2 := [(5, .long ((x5 <<< ((8 : Int32).toInt64 &&& 63)) ||| ((I 38 (((8 : Int32) * x4) + x7).toNatClampNeg).toInt64))), (0, .ref (ad 28)), (1, .int x1), (2, .int x2), (3, .int x3), (4, .int x4), (7, .int x7)]) dM_saveAll_88 (Nat.le_of_ble_eq_true rfl) rfl ?_
    refine am_iinc (j := 6) (v := x7 + (-1)) (L2 := [(7, .int (x7 + (-1))), (5, .long ((x5 <<< ((8 : Int32).toInt64 &&& 63)) ||| ((I 38 (((8 : Int32) * x4) + x7).toNatClampNeg).toInt64))), (0, .ref (ad 28)), (1, .int x1), (2, .int x2), (3, .int x3), (4, .int x4)]) dM_saveAll_90 rfl (congrArg (x7 + ·) (by decide : Int32.ofInt (-1) = (-1))) (Nat.le_of_ble_eq_true rfl) rfl ?_
    refine am_goto 63 dM_saveAll_93 (by decide) ?_
    exact am_sub [2, 3, 4, 5, 6, 1, 0] rfl h

def w_M_saveAll_44 (x1 : Int32) (x2 : Int32) (x3 : Int32) (I : am_MI) (J : am_MJ) (Q : am_MI → am_MJ → Prop) (X : String → am_MI → am_MJ → Prop) (P2 : Int32 → am_MI → am_MJ → Prop) : Prop :=
  ∀ P44 : Int32 → am_MI → am_MJ → Prop, (∀ (x3 : Int32) (I : am_MI) (J : am_MJ), (((21 : Int32) ≤ x3 → (w_M_hold (am_ui (am_ui I 28 15 x1) 28 16 x2) J (fun (I6 : am_MI) (J7 : am_MJ) => Q I6 J7) X)) ∧ (¬ ((21 : Int32) ≤ x3) → (w_M_saveAll_63 x1 x2 x3 (x3 - x3 / (20 : Int32) * (20 : Int32)) (0 : Int64) (7 : Int32) I J Q X P2 P44))) → P44 x3 I J) → P44 x3 I J
set_option maxRecDepth 20000 in
theorem t_M_saveAll_44 {l : Launch} {D : va_G} {aC : Nat → ClassId} {ad : Nat → Nat} (hlt : l.stackTraces = false) {x1 : Int32} {x2 : Int32} {x3 : Int32} {I : am_MI} {J : am_MJ} {Q} {X} {P2 : Int32 → am_MI → am_MJ → Prop} (uP2 : ∀ (x1 : Int32) (I : am_MI) (J : am_MJ), P2 x1 I J → am l D aC "BubbleBoxModel" cM_saveAll 8 none false [] am_G0 (am_rm 6) 0 0 0 0 2 [(0, .ref (ad 28)), (1, .int x1)] [] (am_w ad aC I J) (am_lv ad aC Q) (am_lx ad aC X)) (h : w_M_saveAll_44 x1 x2 x3 I J Q X P2) : am l D aC "BubbleBoxModel" cM_saveAll 8 none false [] am_G0 (am_rm 6) 0 0 0 0 44 [(0, .ref (ad 28)), (1, .int x1), (2, .int x2), (3, .int x3)] [] (am_w ad aC I J) (am_lv ad aC Q) (am_lx ad aC X) := by
  unfold w_M_saveAll_44 at h
  refine h (fun (x3 : Int32) (I : am_MI) (J : am_MJ) => am l D aC "BubbleBoxModel" cM_saveAll 8 none false [] am_G0 (am_rm 6) 0 0 0 0 44 [(0, .ref (ad 28)), (1, .int x1), (2, .int x2), (3, .int x3)] [] (am_w ad aC I J) (am_lv ad aC Q) (am_lx ad aC X)) (fun x3 I J h => ?_)
  refine am_iload_n 3 dM_saveAll_44 rfl rfl ?_
  refine am_bipush (v := 21) dM_saveAll_45 (by decide) ?_
  refine am_icmp_ge 115 dM_saveAll_47 (by decide) (fun hc5 => ?_) (fun hc5 => ?_)
  · replace h := h.1 hc5
    refine am_aload_n 0 dM_saveAll_115 rfl rfl ?_
    refine am_iload_n 1 dM_saveAll_116 rfl rfl ?_
    refine po_M_current dM_saveAll_117 (am_tw kw_674 rfl) ?_
    refine am_aload_n 0 dM_saveAll_120 rfl rfl ?_
    refine am_iload_n 2 dM_saveAll_121 rfl rfl ?_
    refine po_M_turn dM_saveAll_122 (am_tw kw_675 rfl) ?_
    refine am_aload_n 0 dM_saveAll_125 rfl rfl ?_
    refine kV_M_hold dM_saveAll_126 (am_tw kw_808 rfl) (Nat.le_of_ble_eq_true rfl) ⟨Nat.le_of_ble_eq_true rfl, Nat.le_of_ble_eq_true rfl⟩ ⟨Nat.le_of_ble_eq_true rfl, Nat.le_of_ble_eq_true rfl⟩ ⟨Nat.le_of_ble_eq_true rfl, Nat.le_of_ble_eq_true rfl⟩ hlt h (fun I6 J7 h => ?_)
    exact am_vret dM_saveAll_129 rfl (Nat.le_of_ble_eq_true rfl) (Nat.le_of_ble_eq_true rfl) ⟨_, _, rfl, rfl, h⟩
  · replace h := h.2 hc5
    refine am_iload_n 3 dM_saveAll_50 rfl rfl ?_
    refine am_bipush (v := 20) dM_saveAll_51 (by decide) ?_
    refine am_irem dM_saveAll_53 (by decide) ?_
    refine am_istore (L2 := [(4, .int (x3 - x3 / (20 : Int32) * (20 : Int32))), (0, .ref (ad 28)), (1, .int x1), (2, .int x2), (3, .int x3)]) dM_saveAll_54 (Nat.le_of_ble_eq_true rfl) rfl ?_
    refine am_lconst (v := 0) dM_saveAll_56 (by decide) ?_
    refine am_lstore (L2 := [(5, .long 0), (4, .int (x3 - x3 / (20 : Int32) * (20 : Int32))), (0, .ref (ad 28)), (1, .int x1), (2, .int x2), (3, .int x3)]) dM_saveAll_57 (Nat.le_of_ble_eq_true rfl) rfl ?_
    refine am_bipush (v := 7) dM_saveAll_59 (by decide) ?_
    refine am_istore (L2 := [(7, .int 7), (5, .long 0), (4, .int (x3 - x3 / (20 : Int32) * (20 : Int32))), (0, .ref (ad 28)), (1, .int x1), (2, .int x2), (3, .int x3)]) dM_saveAll_61 (Nat.le_of_ble_eq_true rfl) rfl ?_
    exact am_sub [3, 4, 5, 6, 2, 1, 0] rfl (t_M_saveAll_63 hlt uP2 (fun _ _ _ h => h) h)

def w_M_saveAll_2 (x1 : Int32) (I : am_MI) (J : am_MJ) (Q : am_MI → am_MJ → Prop) (X : String → am_MI → am_MJ → Prop) : Prop :=
  ∀ P2 : Int32 → am_MI → am_MJ → Prop, (∀ (x1 : Int32) (I : am_MI) (J : am_MJ), (((8 : Int32) ≤ x1 → (w_M_makeImage (((I 28 16) + (1 : Int32)) - ((I 28 16) + (1 : Int32)) / (256 : Int32) * (256 : Int32)) I J (fun (I2 : am_MI) (J3 : am_MJ) => w_M_saveAll_44 ((1 : Int32) - (I 28 15)) (((I 28 16) + (1 : Int32)) - ((I 28 16) + (1 : Int32)) / (256 : Int32) * (256 : Int32)) (1 : Int32) I2 J3 Q X P2) X)) ∧ (¬ ((8 : Int32) ≤ x1) → (w_M_save x1 I J (fun (I14 : am_MI) (J15 : am_MJ) => P2 (x1 + 1) I14 J15) X))) → P2 x1 I J) → P2 x1 I J
set_option maxRecDepth 20000 in
theorem t_M_saveAll_2 {l : Launch} {D : va_G} {aC : Nat → ClassId} {ad : Nat → Nat} (hlt : l.stackTraces = false) {x1 : Int32} {I : am_MI} {J : am_MJ} {Q} {X} (h : w_M_saveAll_2 x1 I J Q X) : am l D aC "BubbleBoxModel" cM_saveAll 8 none false [] am_G0 (am_rm 6) 0 0 0 0 2 [(0, .ref (ad 28)), (1, .int x1)] [] (am_w ad aC I J) (am_lv ad aC Q) (am_lx ad aC X) := by
  unfold w_M_saveAll_2 at h
  refine h (fun (x1 : Int32) (I : am_MI) (J : am_MJ) => am l D aC "BubbleBoxModel" cM_saveAll 8 none false [] am_G0 (am_rm 6) 0 0 0 0 2 [(0, .ref (ad 28)), (1, .int x1)] [] (am_w ad aC I J) (am_lv ad aC Q) (am_lx ad aC X)) (fun x1 I J h => ?_)
  refine am_iload_n 1 dM_saveAll_2 rfl rfl ?_
  refine am_bipush (v := 8) dM_saveAll_3 (by decide) ?_
  refine am_icmp_ge 19 dM_saveAll_5 (by decide) (fun hc1 => ?_) (fun hc1 => ?_)
  · replace h := h.1 hc1
    refine am_iconst (v := 1) dM_saveAll_19 (by decide) ?_
    refine am_aload_n 0 dM_saveAll_20 rfl rfl ?_
    refine go_M_current dM_saveAll_21 (am_tw kw_674 rfl) ?_
    refine am_isub dM_saveAll_24 ?_
    refine am_istore_n (L2 := [(1, .int ((1 : Int32) - (I 28 15))), (0, .ref (ad 28))]) dM_saveAll_25 rfl (Nat.le_of_ble_eq_true rfl) rfl ?_
    refine am_aload_n 1 dM_saveAll_26 rfl rfl ?_
    refine go_M_turn dM_saveAll_27 (am_tw kw_675 rfl) ?_
    refine am_iconst (v := 1) dM_saveAll_30 (by decide) ?_
    refine am_iadd dM_saveAll_31 ?_
    refine am_sipush (v := 256) dM_saveAll_32 (by decide) ?_
    refine am_irem dM_saveAll_35 (by decide) ?_
    refine am_istore_n (L2 := [(2, .int (((I 28 16) + (1 : Int32)) - ((I 28 16) + (1 : Int32)) / (256 : Int32) * (256 : Int32))), (1, .int ((1 : Int32) - (I 28 15))), (0, .ref (ad 28))]) dM_saveAll_36 rfl (Nat.le_of_ble_eq_true rfl) rfl ?_
    refine am_aload_n 2 dM_saveAll_37 rfl rfl ?_
    refine am_iload_n 0 dM_saveAll_38 rfl rfl ?_
    refine kV_M_makeImage dM_saveAll_39 (am_tw kw_790 rfl) (Nat.le_of_ble_eq_true rfl) ⟨Nat.le_of_ble_eq_true rfl, Nat.le_of_ble_eq_true rfl⟩ ⟨Nat.le_of_ble_eq_true rfl, Nat.le_of_ble_eq_true rfl⟩ ⟨Nat.le_of_ble_eq_true rfl, Nat.le_of_ble_eq_true rfl⟩ hlt h (fun I2 J3 h => ?_)
    refine am_iconst (v := 1) dM_saveAll_42 (by decide) ?_
    refine am_istore_n (L2 := [(3, .int 1), (2, .int (((I 28 16) + (1 : Int32)) - ((I 28 16) + (1 : Int32)) / (256 : Int32) * (256 : Int32))), (1, .int ((1 : Int32) - (I 28 15))), (0, .ref (ad 28))]) dM_saveAll_43 rfl (Nat.le_of_ble_eq_true rfl) rfl ?_
    exact am_sub [3, 2, 1, 0] rfl (t_M_saveAll_44 hlt (fun _ _ _ h => h) h)
  · replace h := h.2 hc1
    refine am_aload_n 0 dM_saveAll_8 rfl rfl ?_
    refine am_iload_n 1 dM_saveAll_9 rfl rfl ?_
    refine kV_M_save dM_saveAll_10 (am_tw kw_770 rfl) (Nat.le_of_ble_eq_true rfl) ⟨Nat.le_of_ble_eq_true rfl, Nat.le_of_ble_eq_true rfl⟩ ⟨Nat.le_of_ble_eq_true rfl, Nat.le_of_ble_eq_true rfl⟩ ⟨Nat.le_of_ble_eq_true rfl, Nat.le_of_ble_eq_true rfl⟩ hlt h (fun I14 J15 h => ?_)
    refine am_iinc (j := 1) (v := x1 + 1) (L2 := [(1, .int (x1 + 1)), (0, .ref (ad 28))]) dM_saveAll_13 rfl (congrArg (x1 + ·) (by decide : Int32.ofInt (1) = 1)) (Nat.le_of_ble_eq_true rfl) rfl ?_
    refine am_goto 2 dM_saveAll_16 (by decide) ?_
    exact am_sub [1, 0] rfl h

def w_M_saveAll (I : am_MI) (J : am_MJ) (Q : am_MI → am_MJ → Prop) (X : String → am_MI → am_MJ → Prop) : Prop :=
  w_M_saveAll_2 (0 : Int32) I J Q X
set_option maxRecDepth 20000 in
theorem t_M_saveAll {l : Launch} {D : va_G} {aC : Nat → ClassId} {ad : Nat → Nat} (hlt : l.stackTraces = false) {I : am_MI} {J : am_MJ} {Q} {X} (h : w_M_saveAll I J Q X) : am_c l D aC yM_saveAll (.code yM_saveAll cM_saveAll 8 none) (am_rm 6) 0 0 [.ref (ad 28)] (am_w ad aC I J) (am_lv ad aC Q) (am_lx ad aC X) := by
  unfold w_M_saveAll at h
  refine am_of (ini := false) hlt (by decide +kernel) (Nat.le_of_ble_eq_true rfl) (fun h => nomatch h) ?_
  show am l D aC "BubbleBoxModel" cM_saveAll 8 none false [] am_G0 (am_rm 6) 0 0 0 0 0 [(0, .ref (ad 28))] [] (am_w ad aC I J) (am_lv ad aC Q) (am_lx ad aC X)
  refine am_iconst (v := 0) dM_saveAll_0 (by decide) ?_
  refine am_istore_n (L2 := [(1, .int 0), (0, .ref (ad 28))]) dM_saveAll_1 rfl (Nat.le_of_ble_eq_true rfl) rfl ?_
  exact am_sub [1, 0] rfl (t_M_saveAll_2 hlt h)
section
variable {l : Launch} {D : va_G} {aC : Nat → ClassId} {ad : Nat → Nat} {own : String} {cc : ByteArray} {nL : Nat} {ret : Option FieldType} {ini : Bool} {tb : List (Nat × Nat × Nat × Nat)} {G : State → (Nat → Prop) → Prop} {rm : Room} {mc ms k n pc idx : Nat} {L : List (Nat × Value)} {st rest : List Value} {I : am_MI} {J : am_MJ} {Q : Option Value → va_W → Prop} {X : String → va_W → Prop}
theorem kV_M_saveAll {K : am_MI → am_MJ → Prop} {X1 : String → am_MI → am_MJ → Prop} (hd : decode cc pc = .ok (.invokevirtual idx, 3)) (hlink : Cond.methodLink own idx yM_saveAll ∈ am_TW) (hcat : (rest.map fun v => v.category).sum ≤ 8) (hR : 6 + 1 ≤ rm.frames ∧ 8 + (8 + 11) + 38 * 6 ≤ rm.locals) (hk : k + 1 ≤ rm.cells ∧ n + 6 ≤ rm.slots) (hm : k ≤ mc ∧ n ≤ ms) (hlt : l.stackTraces = false) (h : w_M_saveAll I J K X1) (kk : ∀ (I1 : am_MI) (J1 : am_MJ), K I1 J1 → am l D aC own cc nL ret ini [] G rm mc ms k n (pc + 3) L rest (am_w ad aC I1 J1) Q (am_lx ad aC X1)) : am l D aC own cc nL ret ini [] G rm mc ms k n pc L (.ref (ad 28) :: rest) (am_w ad aC I J) Q (am_lx ad aC X1) := by
  refine am_callV 28 6 (As := []) (N9 := 0) (t_M_saveAll hlt h) hd rfl (am_w_at ad aC I J (by omega)) rfl hlink (am_tw kw_769 rfl) (am_tw kw_768 rfl) ks_52 (am_tw kw_7 rfl) (by decide +kernel) rfl hcat ⟨rfl, rfl⟩ hR hk (fun E ws1 hx => am_out (fun x hx => nomatch hx) (Nat.add_le_add_right hm.1 1) (Nat.add_le_add_right hm.2 6) hx) ?_
  intro v ws1 hq
  obtain ⟨I1, J1, rfl, rfl, hq⟩ := hq
  exact kk I1 J1 hq
end
def w_M_append_206 (x1 : Int32) (x2 : Int32) (I : am_MI) (J : am_MJ) (Q : Int32 → am_MI → am_MJ → Prop) (X : String → am_MI → am_MJ → Prop) : Prop :=
  vp_in x1 8 ∧ (vp_in x1 8 ∧ (vp_in x1 8 ∧ (vp_in x1 8 ∧ (vp_in x1 8 ∧ (vp_in x1 8 ∧ (vp_in x1 8 ∧ (Q ((am_ui (am_ui I 36 x1.toNatClampNeg (vp_nar .boolean (1 : Int32))) 32 x1.toNatClampNeg (((am_ui I 36 x1.toNatClampNeg (vp_nar .boolean (1 : Int32))) 32 x1.toNatClampNeg) + (1 : Int32))) 32 x1.toNatClampNeg) (am_ui (am_ui I 36 x1.toNatClampNeg (vp_nar .boolean (1 : Int32))) 32 x1.toNatClampNeg (((am_ui I 36 x1.toNatClampNeg (vp_nar .boolean (1 : Int32))) 32 x1.toNatClampNeg) + (1 : Int32))) (am_uj J 35 x1.toNatClampNeg (((J 35 x1.toNatClampNeg) &&& (((255 : Int64) <<< (((8 : Int32) * ((I 32 x1.toNatClampNeg) - (I 32 x1.toNatClampNeg) / (8 : Int32) * (8 : Int32))).toInt64 &&& 63)) ^^^ ((-1) : Int64))) ||| ((x2.toInt64 &&& (255 : Int64)) <<< (((8 : Int32) * ((I 32 x1.toNatClampNeg) - (I 32 x1.toNatClampNeg) / (8 : Int32) * (8 : Int32))).toInt64 &&& 63)))))))))))
set_option maxRecDepth 20000 in
theorem t_M_append_206 {l : Launch} {D : va_G} {aC : Nat → ClassId} {ad : Nat → Nat} (hlt : l.stackTraces = false) {x1 : Int32} {x2 : Int32} {I : am_MI} {J : am_MJ} {Q} {X} (h : w_M_append_206 x1 x2 I J Q X) : am l D aC "BubbleBoxModel" cM_append 8 (some .int) false [] am_G0 (am_rm 7) 0 0 0 0 206 [(0, .ref (ad 28)), (1, .int x1), (2, .int x2)] [] (am_w ad aC I J) (am_li ad aC Q) (am_lx ad aC X) := by
  unfold w_M_append_206 at h
  refine am_bipush (v := 8) dM_append_206 (by decide) ?_
  refine am_aload_n 0 dM_append_208 rfl rfl ?_
  refine go_M_length dM_append_209 (am_tw kw_669 rfl) ?_
  refine am_iload_n 1 dM_append_212 rfl rfl ?_
  obtain ⟨hi24, h⟩ := h
  refine ld_32 hi24 dM_append_213 ?_
  refine am_bipush (v := 8) dM_append_214 (by decide) ?_
  refine am_irem dM_append_216 (by decide) ?_
  refine am_imul dM_append_217 ?_
  refine am_istore (L2 := [(7, .int ((8 : Int32) * ((I 32 x1.toNatClampNeg) - (I 32 x1.toNatClampNeg) / (8 : Int32) * (8 : Int32)))), (0, .ref (ad 28)), (1, .int x1), (2, .int x2)]) dM_append_218 (Nat.le_of_ble_eq_true rfl) rfl ?_
  refine am_aload_n 1 dM_append_220 rfl rfl ?_
  refine go_M_windowBits dM_append_221 (am_tw kw_672 rfl) ?_
  refine am_iload_n 2 dM_append_224 rfl rfl ?_
  refine am_aload_n 1 dM_append_225 rfl rfl ?_
  refine go_M_windowBits dM_append_226 (am_tw kw_672 rfl) ?_
  refine am_iload_n 2 dM_append_229 rfl rfl ?_
  obtain ⟨hi25, h⟩ := h
  refine ld_35 hi25 dM_append_230 ?_
  refine am_ldc2 (v := 255) dM_append_231 (am_tw kw_802 rfl) ?_
  refine am_iload 0 dM_append_234 rfl ?_
  refine am_lshl dM_append_236 ?_
  refine am_ldc2 (v := (-1)) dM_append_237 (am_tw kw_876 rfl) ?_
  refine am_lxor dM_append_240 ?_
  refine am_land dM_append_241 ?_
  refine am_iload_n 3 dM_append_242 rfl rfl ?_
  refine am_i2l dM_append_243 ?_
  refine am_ldc2 (v := 255) dM_append_244 (am_tw kw_802 rfl) ?_
  refine am_land dM_append_247 ?_
  refine am_iload 0 dM_append_248 rfl ?_
  refine am_lshl dM_append_250 ?_
  refine am_lor dM_append_251 ?_
  obtain ⟨hi26, h⟩ := h
  refine st_35 hi26 dM_append_252 ?_
  refine am_aload_n 1 dM_append_253 rfl rfl ?_
  refine go_M_changed dM_append_254 (am_tw kw_673 rfl) ?_
  refine am_iload_n 2 dM_append_257 rfl rfl ?_
  refine am_iconst (v := 1) dM_append_258 (by decide) ?_
  obtain ⟨hi27, h⟩ := h
  refine st_36 hi27 dM_append_259 ?_
  refine am_aload_n 1 dM_append_260 rfl rfl ?_
  refine go_M_length dM_append_261 (am_tw kw_669 rfl) ?_
  refine am_iload_n 2 dM_append_264 rfl rfl ?_
  refine am_dup2 dM_append_265 rfl rfl ?_
  obtain ⟨hi28, h⟩ := h
  refine ld_32 hi28 dM_append_266 ?_
  refine am_iconst (v := 1) dM_append_267 (by decide) ?_
  refine am_iadd dM_append_268 ?_
  obtain ⟨hi29, h⟩ := h
  refine st_32 hi29 dM_append_269 ?_
  refine am_aload_n 1 dM_append_270 rfl rfl ?_
  refine go_M_length dM_append_271 (am_tw kw_669 rfl) ?_
  refine am_iload_n 2 dM_append_274 rfl rfl ?_
  obtain ⟨hi30, h⟩ := h
  refine ld_32 hi30 dM_append_275 ?_
  exact am_iret dM_append_276 rfl (Nat.le_of_ble_eq_true rfl) (Nat.le_of_ble_eq_true rfl) ⟨_, _, _, rfl, rfl, h⟩

def w_M_append_173 (x1 : Int32) (x2 : Int32) (x3 : Int32) (x5 : Int32) (x6 : Int32) (xs0 : Int32) (I : am_MI) (J : am_MJ) (Q : Int32 → am_MI → am_MJ → Prop) (X : String → am_MI → am_MJ → Prop) : Prop :=
  (((am_ui I 28 0 xs0) 28 0) ≤ 0 → ((x5 = 0 → (w_M_append_206 x1 x2 (am_ui I 28 0 xs0) J Q X)) ∧ (¬ (x5 = 0) → (vp_in x3 512 ∧ (vp_in x1 8 ∧ (w_M_append_206 x1 x2 (am_ui (am_ui (am_ui I 28 0 xs0) 33 x3.toNatClampNeg x6) 34 x1.toNatClampNeg x6) J Q X)))))) ∧ (¬ (((am_ui I 28 0 xs0) 28 0) ≤ 0) → (Q 0 (am_ui I 28 0 xs0) J))
set_option maxRecDepth 20000 in
theorem t_M_append_173 {l : Launch} {D : va_G} {aC : Nat → ClassId} {ad : Nat → Nat} (hlt : l.stackTraces = false) {x1 : Int32} {x2 : Int32} {x3 : Int32} {x5 : Int32} {x6 : Int32} {xs0 : Int32} {I : am_MI} {J : am_MJ} {Q} {X} (h : w_M_append_173 x1 x2 x3 x5 x6 xs0 I J Q X) : am l D aC "BubbleBoxModel" cM_append 8 (some .int) false [] am_G0 (am_rm 7) 0 0 0 0 173 [(0, .ref (ad 28)), (1, .int x1), (2, .int x2), (3, .int x3), (5, .int x5), (6, .int x6)] [.int xs0, .ref (ad 28)] (am_w ad aC I J) (am_li ad aC Q) (am_lx ad aC X) := by
  unfold w_M_append_173 at h
  refine po_M_code dM_append_173 (am_tw kw_659 rfl) ?_
  refine am_aload_n 0 dM_append_176 rfl rfl ?_
  refine go_M_code dM_append_177 (am_tw kw_659 rfl) ?_
  refine am_if_le 185 dM_append_180 (by decide) (fun hc22 => ?_) (fun hc22 => ?_)
  · replace h := h.1 hc22
    refine am_iload 4 dM_append_185 rfl ?_
    refine am_if_eq 206 dM_append_187 (by decide) (fun hc23 => ?_) (fun hc23 => ?_)
    · replace h := h.1 hc23
      exact am_sub [0, 1, 2] rfl (t_M_append_206 hlt h)
    · replace h := h.2 hc23
      refine am_aload_n 0 dM_append_190 rfl rfl ?_
      refine go_M_chain dM_append_191 (am_tw kw_670 rfl) ?_
      refine am_iload_n 3 dM_append_194 rfl rfl ?_
      refine am_iload 5 dM_append_195 rfl ?_
      obtain ⟨hi31, h⟩ := h
      refine st_33 hi31 dM_append_197 ?_
      refine am_aload_n 0 dM_append_198 rfl rfl ?_
      refine go_M_windowPage dM_append_199 (am_tw kw_671 rfl) ?_
      refine am_iload_n 1 dM_append_202 rfl rfl ?_
      refine am_iload 5 dM_append_203 rfl ?_
      obtain ⟨hi32, h⟩ := h
      refine st_34 hi32 dM_append_205 ?_
      exact am_sub [0, 1, 2] rfl (t_M_append_206 hlt h)
  · replace h := h.2 hc22
    refine am_iconst (v := 0) dM_append_183 (by decide) ?_
    exact am_iret dM_append_184 rfl (Nat.le_of_ble_eq_true rfl) (Nat.le_of_ble_eq_true rfl) ⟨_, _, _, rfl, rfl, h⟩

def w_M_append_160 (x1 : Int32) (x2 : Int32) (x3 : Int32) (x5 : Int32) (x6 : Int32) (I : am_MI) (J : am_MJ) (Q : Int32 → am_MI → am_MJ → Prop) (X : String → am_MI → am_MJ → Prop) : Prop :=
  ((I 28 7) = 0 → (w_M_append_173 x1 x2 x3 x5 x6 (1 : Int32) I J Q X)) ∧ (¬ ((I 28 7) = 0) → (w_M_append_173 x1 x2 x3 x5 x6 (0 : Int32) I J Q X))
set_option maxRecDepth 20000 in
theorem t_M_append_160 {l : Launch} {D : va_G} {aC : Nat → ClassId} {ad : Nat → Nat} (hlt : l.stackTraces = false) {x1 : Int32} {x2 : Int32} {x3 : Int32} {x5 : Int32} {x6 : Int32} {I : am_MI} {J : am_MJ} {Q} {X} (h : w_M_append_160 x1 x2 x3 x5 x6 I J Q X) : am l D aC "BubbleBoxModel" cM_append 8 (some .int) false [] am_G0 (am_rm 7) 0 0 0 0 160 [(0, .ref (ad 28)), (1, .int x1), (2, .int x2), (3, .int x3), (5, .int x5), (6, .int x6)] [] (am_w ad aC I J) (am_li ad aC Q) (am_lx ad aC X) := by
  unfold w_M_append_160 at h
  refine am_aload_n 0 dM_append_160 rfl rfl ?_
  refine am_aload_n 0 dM_append_161 rfl rfl ?_
  refine go_M_on dM_append_162 (am_tw kw_666 rfl) ?_
  refine am_if_eq 172 dM_append_165 (by decide) (fun hc21 => ?_) (fun hc21 => ?_)
  · replace h := h.1 hc21
    refine am_iconst (v := 1) dM_append_172 (by decide) ?_
    exact am_sub [0, 1, 2, 3, 4, 5] rfl (t_M_append_173 hlt h)
  · replace h := h.2 hc21
    refine am_iconst (v := 0) dM_append_168 (by decide) ?_
    refine am_goto 173 dM_append_169 (by decide) ?_
    exact am_sub [0, 1, 2, 3, 4, 5] rfl (t_M_append_173 hlt h)

def w_M_append_129 (x1 : Int32) (x2 : Int32) (x3 : Int32) (x4 : Int32) (x5 : Int32) (x6 : Int32) (I : am_MI) (J : am_MJ) (Q : Int32 → am_MI → am_MJ → Prop) (X : String → am_MI → am_MJ → Prop) : Prop :=
  (x4 = 0 → (vp_in x3 512 ∧ (w_M_load x1 (I 33 x3.toNatClampNeg) I J (fun (I18 : am_MI) (J19 : am_MJ) => w_M_append_160 x1 x2 x3 x5 x6 I18 J19 Q X) X))) ∧ (¬ (x4 = 0) → (w_M_save x1 I J (fun (I33 : am_MI) (J34 : am_MJ) => vp_in x1 8 ∧ (w_M_append_160 x1 x2 x3 x5 x6 I33 (am_uj J34 35 x1.toNatClampNeg (0 : Int64)) Q X)) X))
set_option maxRecDepth 20000 in
theorem t_M_append_129 {l : Launch} {D : va_G} {aC : Nat → ClassId} {ad : Nat → Nat} (hlt : l.stackTraces = false) {x1 : Int32} {x2 : Int32} {x3 : Int32} {x4 : Int32} {x5 : Int32} {x6 : Int32} {I : am_MI} {J : am_MJ} {Q} {X} (h : w_M_append_129 x1 x2 x3 x4 x5 x6 I J Q X) : am l D aC "BubbleBoxModel" cM_append 8 (some .int) false [] am_G0 (am_rm 7) 0 0 0 0 129 [(0, .ref (ad 28)), (1, .int x1), (2, .int x2), (3, .int x3), (4, .int x4), (5, .int x5), (6, .int x6)] [] (am_w ad aC I J) (am_li ad aC Q) (am_lx ad aC X) := by
  unfold w_M_append_129 at h
  refine am_iload 4 dM_append_129 rfl ?_
  refine am_if_eq 149 dM_append_131 (by decide) (fun hc16 => ?_) (fun hc16 => ?_)
  · replace h := h.1 hc16
    refine am_aload_n 0 dM_append_149 rfl rfl ?_
    refine am_iload_n 1 dM_append_150 rfl rfl ?_
    refine am_aload_n 0 dM_append_151 rfl rfl ?_
    refine go_M_chain dM_append_152 (am_tw kw_670 rfl) ?_
    refine am_iload_n 3 dM_append_155 rfl rfl ?_
    obtain ⟨hi17, h⟩ := h
    refine ld_33 hi17 dM_append_156 ?_
    refine kV_M_load dM_append_157 (am_tw kw_868 rfl) (Nat.le_of_ble_eq_true rfl) ⟨Nat.le_of_ble_eq_true rfl, Nat.le_of_ble_eq_true rfl⟩ ⟨Nat.le_of_ble_eq_true rfl, Nat.le_of_ble_eq_true rfl⟩ ⟨Nat.le_of_ble_eq_true rfl, Nat.le_of_ble_eq_true rfl⟩ hlt h (fun I18 J19 h => ?_)
    exact am_sub [0, 1, 2, 3, 5, 6] rfl (t_M_append_160 hlt h)
  · replace h := h.2 hc16
    refine am_aload_n 0 dM_append_134 rfl rfl ?_
    refine am_iload_n 1 dM_append_135 rfl rfl ?_
    refine kV_M_save dM_append_136 (am_tw kw_770 rfl) (Nat.le_of_ble_eq_true rfl) ⟨Nat.le_of_ble_eq_true rfl, Nat.le_of_ble_eq_true rfl⟩ ⟨Nat.le_of_ble_eq_true rfl, Nat.le_of_ble_eq_true rfl⟩ ⟨Nat.le_of_ble_eq_true rfl, Nat.le_of_ble_eq_true rfl⟩ hlt h (fun I33 J34 h => ?_)
    refine am_aload_n 0 dM_append_139 rfl rfl ?_
    refine go_M_windowBits dM_append_140 (am_tw kw_672 rfl) ?_
    refine am_iload_n 1 dM_append_143 rfl rfl ?_
    refine am_lconst (v := 0) dM_append_144 (by decide) ?_
    obtain ⟨hi36, h⟩ := h
    refine st_35 hi36 dM_append_145 ?_
    refine am_goto 160 dM_append_146 (by decide) ?_
    exact am_sub [0, 1, 2, 3, 5, 6] rfl (t_M_append_160 hlt h)

def w_M_append_110 (x1 : Int32) (x2 : Int32) (x3 : Int32) (x4 : Int32) (x5 : Int32) (xs0 : Int32) (I : am_MI) (J : am_MJ) (Q : Int32 → am_MI → am_MJ → Prop) (X : String → am_MI → am_MJ → Prop) : Prop :=
  (x5 = 0 → (w_M_append_129 x1 x2 x3 x4 x5 xs0 I J Q X)) ∧ (¬ (x5 = 0) → ((0 ≤ xs0 → (w_M_append_129 x1 x2 x3 x4 x5 xs0 I J Q X)) ∧ (¬ (0 ≤ xs0) → (Q 0 (am_ui I 28 0 (3 : Int32)) J))))
set_option maxRecDepth 20000 in
theorem t_M_append_110 {l : Launch} {D : va_G} {aC : Nat → ClassId} {ad : Nat → Nat} (hlt : l.stackTraces = false) {x1 : Int32} {x2 : Int32} {x3 : Int32} {x4 : Int32} {x5 : Int32} {xs0 : Int32} {I : am_MI} {J : am_MJ} {Q} {X} (h : w_M_append_110 x1 x2 x3 x4 x5 xs0 I J Q X) : am l D aC "BubbleBoxModel" cM_append 8 (some .int) false [] am_G0 (am_rm 7) 0 0 0 0 110 [(0, .ref (ad 28)), (1, .int x1), (2, .int x2), (3, .int x3), (4, .int x4), (5, .int x5)] [.int xs0] (am_w ad aC I J) (am_li ad aC Q) (am_lx ad aC X) := by
  unfold w_M_append_110 at h
  refine am_istore (L2 := [(6, .int xs0), (0, .ref (ad 28)), (1, .int x1), (2, .int x2), (3, .int x3), (4, .int x4), (5, .int x5)]) dM_append_110 (Nat.le_of_ble_eq_true rfl) rfl ?_
  refine am_iload 6 dM_append_112 rfl ?_
  refine am_if_eq 129 dM_append_114 (by decide) (fun hc15 => ?_) (fun hc15 => ?_)
  · replace h := h.1 hc15
    exact am_sub [1, 2, 3, 4, 5, 6, 0] rfl (t_M_append_129 hlt h)
  · replace h := h.2 hc15
    refine am_iload 0 dM_append_117 rfl ?_
    refine am_if_ge 129 dM_append_119 (by decide) (fun hc37 => ?_) (fun hc37 => ?_)
    · replace h := h.1 hc37
      exact am_sub [1, 2, 3, 4, 5, 6, 0] rfl (t_M_append_129 hlt h)
    · replace h := h.2 hc37
      refine am_aload_n 1 dM_append_122 rfl rfl ?_
      refine am_iconst (v := 3) dM_append_123 (by decide) ?_
      refine po_M_code dM_append_124 (am_tw kw_659 rfl) ?_
      refine am_iconst (v := 0) dM_append_127 (by decide) ?_
      exact am_iret dM_append_128 rfl (Nat.le_of_ble_eq_true rfl) (Nat.le_of_ble_eq_true rfl) ⟨_, _, _, rfl, rfl, h⟩

def w_M_append_95 (x1 : Int32) (x2 : Int32) (x3 : Int32) (x4 : Int32) (xs0 : Int32) (I : am_MI) (J : am_MJ) (Q : Int32 → am_MI → am_MJ → Prop) (X : String → am_MI → am_MJ → Prop) : Prop :=
  (xs0 = 0 → (w_M_append_110 x1 x2 x3 x4 xs0 ((-1) : Int32) I J Q X)) ∧ (¬ (xs0 = 0) → (w_M_leastFree I J (fun (r40 : Int32) (I38 : am_MI) (J39 : am_MJ) => w_M_append_110 x1 x2 x3 x4 xs0 r40 I38 J39 Q X) X))
set_option maxRecDepth 20000 in
theorem t_M_append_95 {l : Launch} {D : va_G} {aC : Nat → ClassId} {ad : Nat → Nat} (hlt : l.stackTraces = false) {x1 : Int32} {x2 : Int32} {x3 : Int32} {x4 : Int32} {xs0 : Int32} {I : am_MI} {J : am_MJ} {Q} {X} (h : w_M_append_95 x1 x2 x3 x4 xs0 I J Q X) : am l D aC "BubbleBoxModel" cM_append 8 (some .int) false [] am_G0 (am_rm 7) 0 0 0 0 95 [(0, .ref (ad 28)), (1, .int x1), (2, .int x2), (3, .int x3), (4, .int x4)] [.int xs0] (am_w ad aC I J) (am_li ad aC Q) (am_lx ad aC X) := by
  unfold w_M_append_95 at h
  refine am_istore (L2 := [(5, .int xs0), (0, .ref (ad 28)), (1, .int x1), (2, .int x2), (3, .int x3), (4, .int x4)]) dM_append_95 (Nat.le_of_ble_eq_true rfl) rfl ?_
  refine am_iload 0 dM_append_97 rfl ?_
  refine am_if_eq 109 dM_append_99 (by decide) (fun hc14 => ?_) (fun hc14 => ?_)
  · replace h := h.1 hc14
    refine am_iconst (v := (-1)) dM_append_109 (by decide) ?_
    exact am_sub [1, 2, 3, 4, 5, 0] rfl (t_M_append_110 hlt h)
  · replace h := h.2 hc14
    refine am_aload_n 1 dM_append_102 rfl rfl ?_
    refine kV_M_leastFree dM_append_103 (am_tw kw_860 rfl) (Nat.le_of_ble_eq_true rfl) ⟨Nat.le_of_ble_eq_true rfl, Nat.le_of_ble_eq_true rfl⟩ ⟨Nat.le_of_ble_eq_true rfl, Nat.le_of_ble_eq_true rfl⟩ ⟨Nat.le_of_ble_eq_true rfl, Nat.le_of_ble_eq_true rfl⟩ hlt h (fun r40 I38 J39 h => ?_)
    refine am_goto 110 dM_append_106 (by decide) ?_
    exact am_sub [1, 2, 3, 4, 5, 0] rfl (t_M_append_110 hlt h)

def w_M_append_90 (x1 : Int32) (x2 : Int32) (x3 : Int32) (x4 : Int32) (I : am_MI) (J : am_MJ) (Q : Int32 → am_MI → am_MJ → Prop) (X : String → am_MI → am_MJ → Prop) : Prop :=
  w_M_append_95 x1 x2 x3 x4 (1 : Int32) I J Q X
set_option maxRecDepth 20000 in
theorem t_M_append_90 {l : Launch} {D : va_G} {aC : Nat → ClassId} {ad : Nat → Nat} (hlt : l.stackTraces = false) {x1 : Int32} {x2 : Int32} {x3 : Int32} {x4 : Int32} {I : am_MI} {J : am_MJ} {Q} {X} (h : w_M_append_90 x1 x2 x3 x4 I J Q X) : am l D aC "BubbleBoxModel" cM_append 8 (some .int) false [] am_G0 (am_rm 7) 0 0 0 0 90 [(0, .ref (ad 28)), (1, .int x1), (2, .int x2), (3, .int x3), (4, .int x4)] [] (am_w ad aC I J) (am_li ad aC Q) (am_lx ad aC X) := by
  unfold w_M_append_90 at h
  refine am_iconst (v := 1) dM_append_90 (by decide) ?_
  refine am_goto 95 dM_append_91 (by decide) ?_
  exact am_sub [0, 1, 2, 3, 4] rfl (t_M_append_95 hlt h)

def w_M_append_69 (x1 : Int32) (x2 : Int32) (x3 : Int32) (xs0 : Int32) (I : am_MI) (J : am_MJ) (Q : Int32 → am_MI → am_MJ → Prop) (X : String → am_MI → am_MJ → Prop) : Prop :=
  (¬ xs0 = 0 → (w_M_append_90 x1 x2 x3 xs0 I J Q X)) ∧ (xs0 = 0 → (vp_in x3 512 ∧ (vp_in (I 33 x3.toNatClampNeg) 101 ∧ (((I 37 (I 33 x3.toNatClampNeg).toNatClampNeg) = 0 → (w_M_append_95 x1 x2 x3 xs0 (0 : Int32) I J Q X)) ∧ (¬ ((I 37 (I 33 x3.toNatClampNeg).toNatClampNeg) = 0) → (w_M_append_90 x1 x2 x3 xs0 I J Q X))))))
set_option maxRecDepth 20000 in
theorem t_M_append_69 {l : Launch} {D : va_G} {aC : Nat → ClassId} {ad : Nat → Nat} (hlt : l.stackTraces = false) {x1 : Int32} {x2 : Int32} {x3 : Int32} {xs0 : Int32} {I : am_MI} {J : am_MJ} {Q} {X} (h : w_M_append_69 x1 x2 x3 xs0 I J Q X) : am l D aC "BubbleBoxModel" cM_append 8 (some .int) false [] am_G0 (am_rm 7) 0 0 0 0 69 [(0, .ref (ad 28)), (1, .int x1), (2, .int x2), (3, .int x3)] [.int xs0] (am_w ad aC I J) (am_li ad aC Q) (am_lx ad aC X) := by
  unfold w_M_append_69 at h
  refine am_istore (L2 := [(4, .int xs0), (0, .ref (ad 28)), (1, .int x1), (2, .int x2), (3, .int x3)]) dM_append_69 (Nat.le_of_ble_eq_true rfl) rfl ?_
  refine am_iload 0 dM_append_71 rfl ?_
  refine am_if_ne 90 dM_append_73 (by decide) (fun hc13 => ?_) (fun hc13 => ?_)
  · replace h := h.1 hc13
    exact am_sub [1, 2, 3, 4, 0] rfl (t_M_append_90 hlt h)
  · replace h := h.2 hc13
    refine am_aload_n 1 dM_append_76 rfl rfl ?_
    refine go_M_held dM_append_77 (am_tw kw_676 rfl) ?_
    refine am_aload_n 1 dM_append_80 rfl rfl ?_
    refine go_M_chain dM_append_81 (am_tw kw_670 rfl) ?_
    refine am_iload_n 4 dM_append_84 rfl rfl ?_
    obtain ⟨hi41, h⟩ := h
    refine ld_33 hi41 dM_append_85 ?_
    obtain ⟨hi42, h⟩ := h
    refine ld_37 hi42 dM_append_86 ?_
    refine am_if_eq 94 dM_append_87 (by decide) (fun hc43 => ?_) (fun hc43 => ?_)
    · replace h := h.1 hc43
      refine am_iconst (v := 0) dM_append_94 (by decide) ?_
      exact am_sub [1, 2, 3, 4, 0] rfl (t_M_append_95 hlt h)
    · replace h := h.2 hc43
      exact am_sub [1, 2, 3, 4, 0] rfl (t_M_append_90 hlt h)

def w_M_append_25 (x1 : Int32) (x2 : Int32) (xs0 : Int32) (I : am_MI) (J : am_MJ) (Q : Int32 → am_MI → am_MJ → Prop) (X : String → am_MI → am_MJ → Prop) : Prop :=
  (((am_ui I 28 0 xs0) 28 0) ≤ 0 → (vp_in x1 8 ∧ (vp_in x1 8 ∧ ((¬ (((am_ui I 28 0 xs0) 32 x1.toNatClampNeg) - ((am_ui I 28 0 xs0) 32 x1.toNatClampNeg) / (8 : Int32) * (8 : Int32)) = 0 → (w_M_append_69 x1 x2 (((64 : Int32) * x1) + (((am_ui I 28 0 xs0) 32 x1.toNatClampNeg) / (8 : Int32))) (0 : Int32) (am_ui I 28 0 xs0) J Q X)) ∧ ((((am_ui I 28 0 xs0) 32 x1.toNatClampNeg) - ((am_ui I 28 0 xs0) 32 x1.toNatClampNeg) / (8 : Int32) * (8 : Int32)) = 0 → (w_M_append_69 x1 x2 (((64 : Int32) * x1) + (((am_ui I 28 0 xs0) 32 x1.toNatClampNeg) / (8 : Int32))) (1 : Int32) (am_ui I 28 0 xs0) J Q X)))))) ∧ (¬ (((am_ui I 28 0 xs0) 28 0) ≤ 0) → (Q 0 (am_ui I 28 0 xs0) J))
set_option maxRecDepth 20000 in
theorem t_M_append_25 {l : Launch} {D : va_G} {aC : Nat → ClassId} {ad : Nat → Nat} (hlt : l.stackTraces = false) {x1 : Int32} {x2 : Int32} {xs0 : Int32} {I : am_MI} {J : am_MJ} {Q} {X} (h : w_M_append_25 x1 x2 xs0 I J Q X) : am l D aC "BubbleBoxModel" cM_append 8 (some .int) false [] am_G0 (am_rm 7) 0 0 0 0 25 [(0, .ref (ad 28)), (1, .int x1), (2, .int x2)] [.int xs0, .ref (ad 28)] (am_w ad aC I J) (am_li ad aC Q) (am_lx ad aC X) := by
  unfold w_M_append_25 at h
  refine po_M_code dM_append_25 (am_tw kw_659 rfl) ?_
  refine am_aload_n 0 dM_append_28 rfl rfl ?_
  refine go_M_code dM_append_29 (am_tw kw_659 rfl) ?_
  refine am_if_le 37 dM_append_32 (by decide) (fun hc9 => ?_) (fun hc9 => ?_)
  · replace h := h.1 hc9
    refine am_bipush (v := 64) dM_append_37 (by decide) ?_
    refine am_iload_n 1 dM_append_39 rfl rfl ?_
    refine am_imul dM_append_40 ?_
    refine am_aload_n 0 dM_append_41 rfl rfl ?_
    refine go_M_length dM_append_42 (am_tw kw_669 rfl) ?_
    refine am_iload_n 1 dM_append_45 rfl rfl ?_
    obtain ⟨hi10, h⟩ := h
    refine ld_32 hi10 dM_append_46 ?_
    refine am_bipush (v := 8) dM_append_47 (by decide) ?_
    refine am_idiv dM_append_49 (by decide) ?_
    refine am_iadd dM_append_50 ?_
    refine am_istore_n (L2 := [(3, .int (((64 : Int32) * x1) + (((am_ui I 28 0 xs0) 32 x1.toNatClampNeg) / (8 : Int32)))), (0, .ref (ad 28)), (1, .int x1), (2, .int x2)]) dM_append_51 rfl (Nat.le_of_ble_eq_true rfl) rfl ?_
    refine am_aload_n 1 dM_append_52 rfl rfl ?_
    refine go_M_length dM_append_53 (am_tw kw_669 rfl) ?_
    refine am_iload_n 2 dM_append_56 rfl rfl ?_
    obtain ⟨hi11, h⟩ := h
    refine ld_32 hi11 dM_append_57 ?_
    refine am_bipush (v := 8) dM_append_58 (by decide) ?_
    refine am_irem dM_append_60 (by decide) ?_
    refine am_if_ne 68 dM_append_61 (by decide) (fun hc12 => ?_) (fun hc12 => ?_)
    · replace h := h.1 hc12
      refine am_iconst (v := 0) dM_append_68 (by decide) ?_
      exact am_sub [1, 2, 3, 0] rfl (t_M_append_69 hlt h)
    · replace h := h.2 hc12
      refine am_iconst (v := 1) dM_append_64 (by decide) ?_
      refine am_goto 69 dM_append_65 (by decide) ?_
      exact am_sub [1, 2, 3, 0] rfl (t_M_append_69 hlt h)
  · replace h := h.2 hc9
    refine am_iconst (v := 0) dM_append_35 (by decide) ?_
    exact am_iret dM_append_36 rfl (Nat.le_of_ble_eq_true rfl) (Nat.le_of_ble_eq_true rfl) ⟨_, _, _, rfl, rfl, h⟩

def w_M_append (a0 : Int32) (a1 : Int32) (I : am_MI) (J : am_MJ) (Q : Int32 → am_MI → am_MJ → Prop) (X : String → am_MI → am_MJ → Prop) : Prop :=
  w_M_isReady I J (fun (r3 : Int32) (I1 : am_MI) (J2 : am_MJ) => (¬ r3 = 0 → (w_M_isFile a0 I1 J2 (fun (r7 : Int32) (I5 : am_MI) (J6 : am_MJ) => (¬ r7 = 0 → (w_M_append_25 a0 a1 (0 : Int32) I5 J6 Q X)) ∧ (r7 = 0 → (w_M_append_25 a0 a1 (2 : Int32) I5 J6 Q X))) X)) ∧ (r3 = 0 → (w_M_append_25 a0 a1 (1 : Int32) I1 J2 Q X))) X
set_option maxRecDepth 20000 in
theorem t_M_append {l : Launch} {D : va_G} {aC : Nat → ClassId} {ad : Nat → Nat} (hlt : l.stackTraces = false) {a0 : Int32} {a1 : Int32} {I : am_MI} {J : am_MJ} {Q} {X} (h : w_M_append a0 a1 I J Q X) : am_c l D aC yM_append (.code yM_append cM_append 8 (some .int)) (am_rm 7) 0 0 [.ref (ad 28), .int a0, .int a1] (am_w ad aC I J) (am_li ad aC Q) (am_lx ad aC X) := by
  unfold w_M_append at h
  refine am_of (ini := false) hlt (by decide +kernel) (Nat.le_of_ble_eq_true rfl) (fun h => nomatch h) ?_
  show am l D aC "BubbleBoxModel" cM_append 8 (some .int) false [] am_G0 (am_rm 7) 0 0 0 0 0 [(0, .ref (ad 28)), (1, .int a0), (2, .int a1)] [] (am_w ad aC I J) (am_li ad aC Q) (am_lx ad aC X)
  refine am_aload_n 0 dM_append_0 rfl rfl ?_
  refine am_aload_n 0 dM_append_1 rfl rfl ?_
  refine kV_M_isReady dM_append_2 (am_tw kw_836 rfl) (Nat.le_of_ble_eq_true rfl) ⟨Nat.le_of_ble_eq_true rfl, Nat.le_of_ble_eq_true rfl⟩ ⟨Nat.le_of_ble_eq_true rfl, Nat.le_of_ble_eq_true rfl⟩ ⟨Nat.le_of_ble_eq_true rfl, Nat.le_of_ble_eq_true rfl⟩ hlt h (fun r3 I1 J2 h => ?_)
  refine am_if_ne 12 dM_append_5 (by decide) (fun hc4 => ?_) (fun hc4 => ?_)
  · replace h := h.1 hc4
    refine am_aload_n 0 dM_append_12 rfl rfl ?_
    refine am_iload_n 1 dM_append_13 rfl rfl ?_
    refine kV_M_isFile dM_append_14 (am_tw kw_852 rfl) (Nat.le_of_ble_eq_true rfl) ⟨Nat.le_of_ble_eq_true rfl, Nat.le_of_ble_eq_true rfl⟩ ⟨Nat.le_of_ble_eq_true rfl, Nat.le_of_ble_eq_true rfl⟩ ⟨Nat.le_of_ble_eq_true rfl, Nat.le_of_ble_eq_true rfl⟩ hlt h (fun r7 I5 J6 h => ?_)
    refine am_if_ne 24 dM_append_17 (by decide) (fun hc8 => ?_) (fun hc8 => ?_)
    · replace h := h.1 hc8
      refine am_iconst (v := 0) dM_append_24 (by decide) ?_
      exact am_sub [0, 1, 2] rfl (t_M_append_25 hlt h)
    · replace h := h.2 hc8
      refine am_iconst (v := 2) dM_append_20 (by decide) ?_
      refine am_goto 25 dM_append_21 (by decide) ?_
      exact am_sub [0, 1, 2] rfl (t_M_append_25 hlt h)
  · replace h := h.2 hc4
    refine am_iconst (v := 1) dM_append_8 (by decide) ?_
    refine am_goto 25 dM_append_9 (by decide) ?_
    exact am_sub [0, 1, 2] rfl (t_M_append_25 hlt h)
section
variable {l : Launch} {D : va_G} {aC : Nat → ClassId} {ad : Nat → Nat} {own : String} {cc : ByteArray} {nL : Nat} {ret : Option FieldType} {ini : Bool} {tb : List (Nat × Nat × Nat × Nat)} {G : State → (Nat → Prop) → Prop} {rm : Room} {mc ms k n pc idx : Nat} {L : List (Nat × Value)} {st rest : List Value} {I : am_MI} {J : am_MJ} {Q : Option Value → va_W → Prop} {X : String → va_W → Prop}
theorem kV_M_append {a0 : Int32} {a1 : Int32} {K : Int32 → am_MI → am_MJ → Prop} {X1 : String → am_MI → am_MJ → Prop} (hd : decode cc pc = .ok (.invokevirtual idx, 3)) (hlink : Cond.methodLink own idx yM_append ∈ am_TW) (hcat : (rest.map fun v => v.category).sum ≤ 8) (hR : 7 + 1 ≤ rm.frames ∧ 8 + (8 + 11) + 38 * 7 ≤ rm.locals) (hk : k + 1 ≤ rm.cells ∧ n + 6 ≤ rm.slots) (hm : k ≤ mc ∧ n ≤ ms) (hlt : l.stackTraces = false) (h : w_M_append a0 a1 I J K X1) (kk : ∀ (r : Int32) (I1 : am_MI) (J1 : am_MJ), K r I1 J1 → am l D aC own cc nL ret ini [] G rm mc ms k n (pc + 3) L (.int r :: rest) (am_w ad aC I1 J1) Q (am_lx ad aC X1)) : am l D aC own cc nL ret ini [] G rm mc ms k n pc L (.int a1 :: .int a0 :: .ref (ad 28) :: rest) (am_w ad aC I J) Q (am_lx ad aC X1) := by
  refine am_callV 28 6 (As := [.int a0, .int a1]) (N9 := 2) (t_M_append hlt h) hd rfl (am_w_at ad aC I J (by omega)) rfl hlink (am_tw kw_859 rfl) (am_tw kw_857 rfl) (am_tw kw_858 rfl) (am_tw kw_7 rfl) (by decide +kernel) rfl hcat ⟨rfl, rfl⟩ hR hk (fun E ws1 hx => am_out (fun x hx => nomatch hx) (Nat.add_le_add_right hm.1 1) (Nat.add_le_add_right hm.2 6) hx) ?_
  intro v ws1 hq
  obtain ⟨r, I1, J1, rfl, rfl, hq⟩ := hq
  exact kk r I1 J1 hq
end
def w_M_byteAt_87 (x1 : Int32) (x2 : Int32) (xs0 : Int32) (I : am_MI) (J : am_MJ) (Q : Int32 → am_MI → am_MJ → Prop) (X : String → am_MI → am_MJ → Prop) : Prop :=
  (((am_ui I 28 0 xs0) 28 0) ≤ 0 → (vp_in x1 8 ∧ (Q ((((J 35 x1.toNatClampNeg) >>> (((8 : Int32) * (x2 - x2 / (8 : Int32) * (8 : Int32))).toInt64 &&& 63)) &&& (255 : Int64)).toInt32) (am_ui I 28 0 xs0) J))) ∧ (¬ (((am_ui I 28 0 xs0) 28 0) ≤ 0) → (Q 0 (am_ui I 28 0 xs0) J))
set_option maxRecDepth 20000 in
theorem t_M_byteAt_87 {l : Launch} {D : va_G} {aC : Nat → ClassId} {ad : Nat → Nat} (hlt : l.stackTraces = false) {x1 : Int32} {x2 : Int32} {xs0 : Int32} {I : am_MI} {J : am_MJ} {Q} {X} (h : w_M_byteAt_87 x1 x2 xs0 I J Q X) : am l D aC "BubbleBoxModel" cM_byteAt 3 (some .int) false [] am_G0 (am_rm 7) 0 0 0 0 87 [(0, .ref (ad 28)), (1, .int x1), (2, .int x2)] [.int xs0, .ref (ad 28)] (am_w ad aC I J) (am_li ad aC Q) (am_lx ad aC X) := by
  unfold w_M_byteAt_87 at h
  refine po_M_code dM_byteAt_87 (am_tw kw_659 rfl) ?_
  refine am_aload_n 0 dM_byteAt_90 rfl rfl ?_
  refine go_M_code dM_byteAt_91 (am_tw kw_659 rfl) ?_
  refine am_if_le 101 dM_byteAt_94 (by decide) (fun hc16 => ?_) (fun hc16 => ?_)
  · replace h := h.1 hc16
    refine am_aload_n 0 dM_byteAt_101 rfl rfl ?_
    refine go_M_windowBits dM_byteAt_102 (am_tw kw_672 rfl) ?_
    refine am_iload_n 1 dM_byteAt_105 rfl rfl ?_
    obtain ⟨hi17, h⟩ := h
    refine ld_35 hi17 dM_byteAt_106 ?_
    refine am_bipush (v := 8) dM_byteAt_107 (by decide) ?_
    refine am_iload_n 2 dM_byteAt_109 rfl rfl ?_
    refine am_bipush (v := 8) dM_byteAt_110 (by decide) ?_
    refine am_irem dM_byteAt_112 (by decide) ?_
    refine am_imul dM_byteAt_113 ?_
    refine am_lshr dM_byteAt_114 ?_
    refine am_ldc2 (v := 255) dM_byteAt_115 (am_tw kw_802 rfl) ?_
    refine am_land dM_byteAt_118 ?_
    refine am_l2i dM_byteAt_119 ?_
    exact am_iret dM_byteAt_120 rfl (Nat.le_of_ble_eq_true rfl) (Nat.le_of_ble_eq_true rfl) ⟨_, _, _, rfl, rfl, h⟩
  · replace h := h.2 hc16
    refine am_iconst (v := 0) dM_byteAt_97 (by decide) ?_
    refine am_goto 120 dM_byteAt_98 (by decide) ?_
    exact am_iret dM_byteAt_120 rfl (Nat.le_of_ble_eq_true rfl) (Nat.le_of_ble_eq_true rfl) ⟨_, _, _, rfl, rfl, h⟩

def w_M_byteAt_43 (x1 : Int32) (x2 : Int32) (xs0 : Int32) (I : am_MI) (J : am_MJ) (Q : Int32 → am_MI → am_MJ → Prop) (X : String → am_MI → am_MJ → Prop) : Prop :=
  (((am_ui I 28 0 xs0) 28 0) ≤ 0 → (vp_in (((64 : Int32) * x1) + (x2 / (8 : Int32))) 512 ∧ (w_M_load x1 ((am_ui I 28 0 xs0) 33 (((64 : Int32) * x1) + (x2 / (8 : Int32))).toNatClampNeg) (am_ui I 28 0 xs0) J (fun (I12 : am_MI) (J13 : am_MJ) => ((I12 28 7) = 0 → (w_M_byteAt_87 x1 x2 (1 : Int32) I12 J13 Q X)) ∧ (¬ ((I12 28 7) = 0) → (w_M_byteAt_87 x1 x2 (0 : Int32) I12 J13 Q X))) X))) ∧ (¬ (((am_ui I 28 0 xs0) 28 0) ≤ 0) → (Q 0 (am_ui I 28 0 xs0) J))
set_option maxRecDepth 20000 in
theorem t_M_byteAt_43 {l : Launch} {D : va_G} {aC : Nat → ClassId} {ad : Nat → Nat} (hlt : l.stackTraces = false) {x1 : Int32} {x2 : Int32} {xs0 : Int32} {I : am_MI} {J : am_MJ} {Q} {X} (h : w_M_byteAt_43 x1 x2 xs0 I J Q X) : am l D aC "BubbleBoxModel" cM_byteAt 3 (some .int) false [] am_G0 (am_rm 7) 0 0 0 0 43 [(0, .ref (ad 28)), (1, .int x1), (2, .int x2)] [.int xs0, .ref (ad 28)] (am_w ad aC I J) (am_li ad aC Q) (am_lx ad aC X) := by
  unfold w_M_byteAt_43 at h
  refine po_M_code dM_byteAt_43 (am_tw kw_659 rfl) ?_
  refine am_aload_n 0 dM_byteAt_46 rfl rfl ?_
  refine go_M_code dM_byteAt_47 (am_tw kw_659 rfl) ?_
  refine am_if_le 55 dM_byteAt_50 (by decide) (fun hc10 => ?_) (fun hc10 => ?_)
  · replace h := h.1 hc10
    refine am_aload_n 0 dM_byteAt_55 rfl rfl ?_
    refine am_iload_n 1 dM_byteAt_56 rfl rfl ?_
    refine am_aload_n 0 dM_byteAt_57 rfl rfl ?_
    refine go_M_chain dM_byteAt_58 (am_tw kw_670 rfl) ?_
    refine am_bipush (v := 64) dM_byteAt_61 (by decide) ?_
    refine am_iload_n 1 dM_byteAt_63 rfl rfl ?_
    refine am_imul dM_byteAt_64 ?_
    refine am_iload_n 2 dM_byteAt_65 rfl rfl ?_
    refine am_bipush (v := 8) dM_byteAt_66 (by decide) ?_
    refine am_idiv dM_byteAt_68 (by decide) ?_
    refine am_iadd dM_byteAt_69 ?_
    obtain ⟨hi11, h⟩ := h
    refine ld_33 hi11 dM_byteAt_70 ?_
    refine kV_M_load dM_byteAt_71 (am_tw kw_868 rfl) (Nat.le_of_ble_eq_true rfl) ⟨Nat.le_of_ble_eq_true rfl, Nat.le_of_ble_eq_true rfl⟩ ⟨Nat.le_of_ble_eq_true rfl, Nat.le_of_ble_eq_true rfl⟩ ⟨Nat.le_of_ble_eq_true rfl, Nat.le_of_ble_eq_true rfl⟩ hlt h (fun I12 J13 h => ?_)
    refine am_aload_n 0 dM_byteAt_74 rfl rfl ?_
    refine am_aload_n 0 dM_byteAt_75 rfl rfl ?_
    refine go_M_on dM_byteAt_76 (am_tw kw_666 rfl) ?_
    refine am_if_eq 86 dM_byteAt_79 (by decide) (fun hc15 => ?_) (fun hc15 => ?_)
    · replace h := h.1 hc15
      refine am_iconst (v := 1) dM_byteAt_86 (by decide) ?_
      exact am_sub [0, 1, 2] rfl (t_M_byteAt_87 hlt h)
    · replace h := h.2 hc15
      refine am_iconst (v := 0) dM_byteAt_82 (by decide) ?_
      refine am_goto 87 dM_byteAt_83 (by decide) ?_
      exact am_sub [0, 1, 2] rfl (t_M_byteAt_87 hlt h)
  · replace h := h.2 hc10
    refine am_iconst (v := 0) dM_byteAt_53 (by decide) ?_
    exact am_iret dM_byteAt_54 rfl (Nat.le_of_ble_eq_true rfl) (Nat.le_of_ble_eq_true rfl) ⟨_, _, _, rfl, rfl, h⟩

def w_M_byteAt_38 (x1 : Int32) (x2 : Int32) (I : am_MI) (J : am_MJ) (Q : Int32 → am_MI → am_MJ → Prop) (X : String → am_MI → am_MJ → Prop) : Prop :=
  w_M_byteAt_43 x1 x2 (3 : Int32) I J Q X
set_option maxRecDepth 20000 in
theorem t_M_byteAt_38 {l : Launch} {D : va_G} {aC : Nat → ClassId} {ad : Nat → Nat} (hlt : l.stackTraces = false) {x1 : Int32} {x2 : Int32} {I : am_MI} {J : am_MJ} {Q} {X} (h : w_M_byteAt_38 x1 x2 I J Q X) : am l D aC "BubbleBoxModel" cM_byteAt 3 (some .int) false [] am_G0 (am_rm 7) 0 0 0 0 38 [(0, .ref (ad 28)), (1, .int x1), (2, .int x2)] [.ref (ad 28)] (am_w ad aC I J) (am_li ad aC Q) (am_lx ad aC X) := by
  unfold w_M_byteAt_38 at h
  refine am_iconst (v := 3) dM_byteAt_38 (by decide) ?_
  refine am_goto 43 dM_byteAt_39 (by decide) ?_
  exact am_sub [0, 1, 2] rfl (t_M_byteAt_43 hlt h)

def w_M_byteAt (a0 : Int32) (a1 : Int32) (I : am_MI) (J : am_MJ) (Q : Int32 → am_MI → am_MJ → Prop) (X : String → am_MI → am_MJ → Prop) : Prop :=
  w_M_isReady I J (fun (r3 : Int32) (I1 : am_MI) (J2 : am_MJ) => (¬ r3 = 0 → (w_M_isFile a0 I1 J2 (fun (r7 : Int32) (I5 : am_MI) (J6 : am_MJ) => (¬ r7 = 0 → ((a1 < 0 → (w_M_byteAt_38 a0 a1 I5 J6 Q X)) ∧ (¬ (a1 < 0) → (vp_in a0 8 ∧ ((a1 < (I5 32 a0.toNatClampNeg) → (w_M_byteAt_43 a0 a1 (0 : Int32) I5 J6 Q X)) ∧ (¬ (a1 < (I5 32 a0.toNatClampNeg)) → (w_M_byteAt_38 a0 a1 I5 J6 Q X))))))) ∧ (r7 = 0 → (w_M_byteAt_43 a0 a1 (2 : Int32) I5 J6 Q X))) X)) ∧ (r3 = 0 → (w_M_byteAt_43 a0 a1 (1 : Int32) I1 J2 Q X))) X
set_option maxRecDepth 20000 in
theorem t_M_byteAt {l : Launch} {D : va_G} {aC : Nat → ClassId} {ad : Nat → Nat} (hlt : l.stackTraces = false) {a0 : Int32} {a1 : Int32} {I : am_MI} {J : am_MJ} {Q} {X} (h : w_M_byteAt a0 a1 I J Q X) : am_c l D aC yM_byteAt (.code yM_byteAt cM_byteAt 3 (some .int)) (am_rm 7) 0 0 [.ref (ad 28), .int a0, .int a1] (am_w ad aC I J) (am_li ad aC Q) (am_lx ad aC X) := by
  unfold w_M_byteAt at h
  refine am_of (ini := false) hlt (by decide +kernel) (Nat.le_of_ble_eq_true rfl) (fun h => nomatch h) ?_
  show am l D aC "BubbleBoxModel" cM_byteAt 3 (some .int) false [] am_G0 (am_rm 7) 0 0 0 0 0 [(0, .ref (ad 28)), (1, .int a0), (2, .int a1)] [] (am_w ad aC I J) (am_li ad aC Q) (am_lx ad aC X)
  refine am_aload_n 0 dM_byteAt_0 rfl rfl ?_
  refine am_aload_n 0 dM_byteAt_1 rfl rfl ?_
  refine kV_M_isReady dM_byteAt_2 (am_tw kw_836 rfl) (Nat.le_of_ble_eq_true rfl) ⟨Nat.le_of_ble_eq_true rfl, Nat.le_of_ble_eq_true rfl⟩ ⟨Nat.le_of_ble_eq_true rfl, Nat.le_of_ble_eq_true rfl⟩ ⟨Nat.le_of_ble_eq_true rfl, Nat.le_of_ble_eq_true rfl⟩ hlt h (fun r3 I1 J2 h => ?_)
  refine am_if_ne 12 dM_byteAt_5 (by decide) (fun hc4 => ?_) (fun hc4 => ?_)
  · replace h := h.1 hc4
    refine am_aload_n 0 dM_byteAt_12 rfl rfl ?_
    refine am_iload_n 1 dM_byteAt_13 rfl rfl ?_
    refine kV_M_isFile dM_byteAt_14 (am_tw kw_852 rfl) (Nat.le_of_ble_eq_true rfl) ⟨Nat.le_of_ble_eq_true rfl, Nat.le_of_ble_eq_true rfl⟩ ⟨Nat.le_of_ble_eq_true rfl, Nat.le_of_ble_eq_true rfl⟩ ⟨Nat.le_of_ble_eq_true rfl, Nat.le_of_ble_eq_true rfl⟩ hlt h (fun r7 I5 J6 h => ?_)
    refine am_if_ne 24 dM_byteAt_17 (by decide) (fun hc8 => ?_) (fun hc8 => ?_)
    · replace h := h.1 hc8
      refine am_iload_n 2 dM_byteAt_24 rfl rfl ?_
      refine am_if_lt 38 dM_byteAt_25 (by decide) (fun hc9 => ?_) (fun hc9 => ?_)
      · replace h := h.1 hc9
        exact am_sub [0, 1, 2] rfl (t_M_byteAt_38 hlt h)
      · replace h := h.2 hc9
        refine am_iload_n 2 dM_byteAt_28 rfl rfl ?_
        refine am_aload_n 0 dM_byteAt_29 rfl rfl ?_
        refine go_M_length dM_byteAt_30 (am_tw kw_669 rfl) ?_
        refine am_iload_n 1 dM_byteAt_33 rfl rfl ?_
        obtain ⟨hi18, h⟩ := h
        refine ld_32 hi18 dM_byteAt_34 ?_
        refine am_icmp_lt 42 dM_byteAt_35 (by decide) (fun hc19 => ?_) (fun hc19 => ?_)
        · replace h := h.1 hc19
          refine am_iconst (v := 0) dM_byteAt_42 (by decide) ?_
          exact am_sub [0, 1, 2] rfl (t_M_byteAt_43 hlt h)
        · replace h := h.2 hc19
          exact am_sub [0, 1, 2] rfl (t_M_byteAt_38 hlt h)
    · replace h := h.2 hc8
      refine am_iconst (v := 2) dM_byteAt_20 (by decide) ?_
      refine am_goto 43 dM_byteAt_21 (by decide) ?_
      exact am_sub [0, 1, 2] rfl (t_M_byteAt_43 hlt h)
  · replace h := h.2 hc4
    refine am_iconst (v := 1) dM_byteAt_8 (by decide) ?_
    refine am_goto 43 dM_byteAt_9 (by decide) ?_
    exact am_sub [0, 1, 2] rfl (t_M_byteAt_43 hlt h)
section
variable {l : Launch} {D : va_G} {aC : Nat → ClassId} {ad : Nat → Nat} {own : String} {cc : ByteArray} {nL : Nat} {ret : Option FieldType} {ini : Bool} {tb : List (Nat × Nat × Nat × Nat)} {G : State → (Nat → Prop) → Prop} {rm : Room} {mc ms k n pc idx : Nat} {L : List (Nat × Value)} {st rest : List Value} {I : am_MI} {J : am_MJ} {Q : Option Value → va_W → Prop} {X : String → va_W → Prop}
theorem kV_M_byteAt {a0 : Int32} {a1 : Int32} {K : Int32 → am_MI → am_MJ → Prop} {X1 : String → am_MI → am_MJ → Prop} (hd : decode cc pc = .ok (.invokevirtual idx, 3)) (hlink : Cond.methodLink own idx yM_byteAt ∈ am_TW) (hcat : (rest.map fun v => v.category).sum ≤ 8) (hR : 7 + 1 ≤ rm.frames ∧ 8 + (3 + 11) + 38 * 7 ≤ rm.locals) (hk : k + 1 ≤ rm.cells ∧ n + 6 ≤ rm.slots) (hm : k ≤ mc ∧ n ≤ ms) (hlt : l.stackTraces = false) (h : w_M_byteAt a0 a1 I J K X1) (kk : ∀ (r : Int32) (I1 : am_MI) (J1 : am_MJ), K r I1 J1 → am l D aC own cc nL ret ini [] G rm mc ms k n (pc + 3) L (.int r :: rest) (am_w ad aC I1 J1) Q (am_lx ad aC X1)) : am l D aC own cc nL ret ini [] G rm mc ms k n pc L (.int a1 :: .int a0 :: .ref (ad 28) :: rest) (am_w ad aC I J) Q (am_lx ad aC X1) := by
  refine am_callV 28 6 (As := [.int a0, .int a1]) (N9 := 2) (t_M_byteAt hlt h) hd rfl (am_w_at ad aC I J (by omega)) rfl hlink (am_tw kw_880 rfl) (am_tw kw_878 rfl) (am_tw kw_879 rfl) (am_tw kw_7 rfl) (by decide +kernel) rfl hcat ⟨rfl, rfl⟩ hR hk (fun E ws1 hx => am_out (fun x hx => nomatch hx) (Nat.add_le_add_right hm.1 1) (Nat.add_le_add_right hm.2 6) hx) ?_
  intro v ws1 hq
  obtain ⟨r, I1, J1, rfl, rfl, hq⟩ := hq
  exact kk r I1 J1 hq
end
def w_M_format_83 (x2 : Int32) (I : am_MI) (J : am_MJ) (Q : Int32 → am_MI → am_MJ → Prop) (X : String → am_MI → am_MJ → Prop) (P20 : Int32 → Int32 → am_MI → am_MJ → Prop) : Prop :=
  ∀ P83 : Int32 → am_MI → am_MJ → Prop, (∀ (x2 : Int32) (I : am_MI) (J : am_MJ), (((101 : Int32) ≤ x2 → (w_M_forget I J (fun (I6 : am_MI) (J7 : am_MJ) => w_M_saveAll (am_ui (am_ui (am_ui I6 28 15 (1 : Int32)) 28 16 (255 : Int32)) 28 8 (1 : Int32)) J7 (fun (I9 : am_MI) (J10 : am_MJ) => ((I9 28 7) = 0 → (((am_ui I9 28 0 (1 : Int32)) 28 7 = 0 ∨ (am_ui I9 28 0 (1 : Int32)) 28 7 = 1) ∧ Q ((am_ui I9 28 0 (1 : Int32)) 28 7) (am_ui I9 28 0 (1 : Int32)) J10)) ∧ (¬ ((I9 28 7) = 0) → (((am_ui I9 28 0 (0 : Int32)) 28 7 = 0 ∨ (am_ui I9 28 0 (0 : Int32)) 28 7 = 1) ∧ Q ((am_ui I9 28 0 (0 : Int32)) 28 7) (am_ui I9 28 0 (0 : Int32)) J10))) X) X)) ∧ (¬ ((101 : Int32) ≤ x2) → (vp_in x2 101 ∧ (P83 (x2 + 1) I (am_uj J 30 x2.toNatClampNeg (0 : Int64)))))) → P83 x2 I J) → P83 x2 I J
set_option maxRecDepth 20000 in
theorem t_M_format_83 {l : Launch} {D : va_G} {aC : Nat → ClassId} {ad : Nat → Nat} (hlt : l.stackTraces = false) {x2 : Int32} {I : am_MI} {J : am_MJ} {Q} {X} {P20 : Int32 → Int32 → am_MI → am_MJ → Prop} (uP20 : ∀ (x1 : Int32) (x2 : Int32) (I : am_MI) (J : am_MJ), P20 x1 x2 I J → am l D aC "BubbleBoxModel" cM_format 3 (some .boolean) false [] am_G0 (am_rm 7) 0 0 0 0 20 [(0, .ref (ad 28)), (1, .int x1), (2, .int x2)] [] (am_w ad aC I J) (am_li ad aC Q) (am_lx ad aC X)) (h : w_M_format_83 x2 I J Q X P20) : am l D aC "BubbleBoxModel" cM_format 3 (some .boolean) false [] am_G0 (am_rm 7) 0 0 0 0 83 [(0, .ref (ad 28)), (2, .int x2)] [] (am_w ad aC I J) (am_li ad aC Q) (am_lx ad aC X) := by
  unfold w_M_format_83 at h
  refine h (fun (x2 : Int32) (I : am_MI) (J : am_MJ) => am l D aC "BubbleBoxModel" cM_format 3 (some .boolean) false [] am_G0 (am_rm 7) 0 0 0 0 83 [(0, .ref (ad 28)), (2, .int x2)] [] (am_w ad aC I J) (am_li ad aC Q) (am_lx ad aC X)) (fun x2 I J h => ?_)
  refine am_iload_n 1 dM_format_83 rfl rfl ?_
  refine am_bipush (v := 101) dM_format_84 (by decide) ?_
  refine am_icmp_ge 102 dM_format_86 (by decide) (fun hc5 => ?_) (fun hc5 => ?_)
  · replace h := h.1 hc5
    refine am_aload_n 0 dM_format_102 rfl rfl ?_
    refine kV_M_forget dM_format_103 (am_tw kw_651 rfl) (Nat.le_of_ble_eq_true rfl) ⟨Nat.le_of_ble_eq_true rfl, Nat.le_of_ble_eq_true rfl⟩ ⟨Nat.le_of_ble_eq_true rfl, Nat.le_of_ble_eq_true rfl⟩ ⟨Nat.le_of_ble_eq_true rfl, Nat.le_of_ble_eq_true rfl⟩ hlt h (fun I6 J7 h => ?_)
    refine am_aload_n 0 dM_format_106 rfl rfl ?_
    refine am_iconst (v := 1) dM_format_107 (by decide) ?_
    refine po_M_current dM_format_108 (am_tw kw_674 rfl) ?_
    refine am_aload_n 0 dM_format_111 rfl rfl ?_
    refine am_sipush (v := 255) dM_format_112 (by decide) ?_
    refine po_M_turn dM_format_115 (am_tw kw_675 rfl) ?_
    refine am_aload_n 0 dM_format_118 rfl rfl ?_
    refine am_iconst (v := 1) dM_format_119 (by decide) ?_
    refine po_M_mounted dM_format_120 (am_tw kw_667 rfl) (by decide) ?_
    refine am_aload_n 0 dM_format_123 rfl rfl ?_
    refine kV_M_saveAll dM_format_124 (am_tw kw_766 rfl) (Nat.le_of_ble_eq_true rfl) ⟨Nat.le_of_ble_eq_true rfl, Nat.le_of_ble_eq_true rfl⟩ ⟨Nat.le_of_ble_eq_true rfl, Nat.le_of_ble_eq_true rfl⟩ ⟨Nat.le_of_ble_eq_true rfl, Nat.le_of_ble_eq_true rfl⟩ hlt h (fun I9 J10 h => ?_)
    refine am_aload_n 0 dM_format_127 rfl rfl ?_
    refine am_aload_n 0 dM_format_128 rfl rfl ?_
    refine go_M_on dM_format_129 (am_tw kw_666 rfl) ?_
    refine am_if_eq 139 dM_format_132 (by decide) (fun hc12 => ?_) (fun hc12 => ?_)
    · replace h := h.1 hc12
      refine am_iconst (v := 1) dM_format_139 (by decide) ?_
      refine po_M_code dM_format_140 (am_tw kw_659 rfl) ?_
      refine am_aload_n 0 dM_format_143 rfl rfl ?_
      refine go_M_on dM_format_144 (am_tw kw_666 rfl) ?_
      exact am_zret dM_format_147 rfl (Nat.le_of_ble_eq_true rfl) (Nat.le_of_ble_eq_true rfl) h.1 ⟨_, _, _, rfl, rfl, h.2⟩
    · replace h := h.2 hc12
      refine am_iconst (v := 0) dM_format_135 (by decide) ?_
      refine am_goto 140 dM_format_136 (by decide) ?_
      refine po_M_code dM_format_140 (am_tw kw_659 rfl) ?_
      refine am_aload_n 0 dM_format_143 rfl rfl ?_
      refine go_M_on dM_format_144 (am_tw kw_666 rfl) ?_
      exact am_zret dM_format_147 rfl (Nat.le_of_ble_eq_true rfl) (Nat.le_of_ble_eq_true rfl) h.1 ⟨_, _, _, rfl, rfl, h.2⟩
  · replace h := h.2 hc5
    refine am_aload_n 0 dM_format_89 rfl rfl ?_
    refine go_M_data dM_format_90 (am_tw kw_662 rfl) ?_
    refine am_iload_n 1 dM_format_93 rfl rfl ?_
    refine am_lconst (v := 0) dM_format_94 (by decide) ?_
    obtain ⟨hi13, h⟩ := h
    refine st_30 hi13 dM_format_95 ?_
    refine am_iinc (j := 1) (v := x2 + 1) (L2 := [(2, .int (x2 + 1)), (0, .ref (ad 28))]) dM_format_96 rfl (congrArg (x2 + ·) (by decide : Int32.ofInt (1) = 1)) (Nat.le_of_ble_eq_true rfl) rfl ?_
    refine am_goto 83 dM_format_99 (by decide) ?_
    exact am_sub [1, 0] rfl h

def w_M_format_20 (x1 : Int32) (x2 : Int32) (I : am_MI) (J : am_MJ) (Q : Int32 → am_MI → am_MJ → Prop) (X : String → am_MI → am_MJ → Prop) : Prop :=
  ∀ P20 : Int32 → Int32 → am_MI → am_MJ → Prop, (∀ (x1 : Int32) (x2 : Int32) (I : am_MI) (J : am_MJ), (((69 : Int32) ≤ x2 → ((0 < (I 28 0) → (Q 0 I J)) ∧ (¬ (0 < (I 28 0)) → (((64 : Int32) ≤ x1 → (w_M_format_83 (0 : Int32) (am_ui I 28 2 (1 : Int32)) (am_uj J 28 5 ((J 28 5) + (202 : Int64))) Q X P20)) ∧ (¬ ((64 : Int32) ≤ x1) → (Q 0 I J)))))) ∧ (¬ ((69 : Int32) ≤ x2) → (vp_in x2 69 ∧ (((I 29 x2.toNatClampNeg) = 0 → (P20 (x1 + (1 : Int32)) (x2 + 1) I J)) ∧ (¬ ((I 29 x2.toNatClampNeg) = 0) → (P20 x1 (x2 + 1) I J)))))) → P20 x1 x2 I J) → P20 x1 x2 I J
set_option maxRecDepth 20000 in
theorem t_M_format_20 {l : Launch} {D : va_G} {aC : Nat → ClassId} {ad : Nat → Nat} (hlt : l.stackTraces = false) {x1 : Int32} {x2 : Int32} {I : am_MI} {J : am_MJ} {Q} {X} (h : w_M_format_20 x1 x2 I J Q X) : am l D aC "BubbleBoxModel" cM_format 3 (some .boolean) false [] am_G0 (am_rm 7) 0 0 0 0 20 [(0, .ref (ad 28)), (1, .int x1), (2, .int x2)] [] (am_w ad aC I J) (am_li ad aC Q) (am_lx ad aC X) := by
  unfold w_M_format_20 at h
  refine h (fun (x1 : Int32) (x2 : Int32) (I : am_MI) (J : am_MJ) => am l D aC "BubbleBoxModel" cM_format 3 (some .boolean) false [] am_G0 (am_rm 7) 0 0 0 0 20 [(0, .ref (ad 28)), (1, .int x1), (2, .int x2)] [] (am_w ad aC I J) (am_li ad aC Q) (am_lx ad aC X)) (fun x1 x2 I J h => ?_)
  refine am_iload_n 2 dM_format_20 rfl rfl ?_
  refine am_bipush (v := 69) dM_format_21 (by decide) ?_
  refine am_icmp_ge 49 dM_format_23 (by decide) (fun hc2 => ?_) (fun hc2 => ?_)
  · replace h := h.1 hc2
    refine am_aload_n 0 dM_format_49 rfl rfl ?_
    refine go_M_code dM_format_50 (am_tw kw_659 rfl) ?_
    refine am_if_gt 62 dM_format_53 (by decide) (fun hc3 => ?_) (fun hc3 => ?_)
    · replace h := h.1 hc3
      refine am_iconst (v := 0) dM_format_62 (by decide) ?_
      exact am_zret dM_format_63 rfl (Nat.le_of_ble_eq_true rfl) (Nat.le_of_ble_eq_true rfl) (by decide) ⟨_, _, _, rfl, rfl, h⟩
    · replace h := h.2 hc3
      refine am_iload_n 1 dM_format_56 rfl rfl ?_
      refine am_bipush (v := 64) dM_format_57 (by decide) ?_
      refine am_icmp_ge 64 dM_format_59 (by decide) (fun hc4 => ?_) (fun hc4 => ?_)
      · replace h := h.1 hc4
        refine am_aload_n 0 dM_format_64 rfl rfl ?_
        refine am_aload_n 0 dM_format_65 rfl rfl ?_
        refine go_M_steps dM_format_66 (am_tw kw_664 rfl) ?_
        refine am_ldc2 (v := 202) dM_format_69 (am_tw kw_765 rfl) ?_
        refine am_ladd dM_format_72 ?_
        refine po_M_steps dM_format_73 (am_tw kw_664 rfl) ?_
        refine am_aload_n 0 dM_format_76 rfl rfl ?_
        refine am_iconst (v := 1) dM_format_77 (by decide) ?_
        refine po_M_mapped dM_format_78 (am_tw kw_661 rfl) (by decide) ?_
        refine am_iconst (v := 0) dM_format_81 (by decide) ?_
        refine am_istore_n (L2 := [(2, .int 0), (0, .ref (ad 28)), (1, .int x1)]) dM_format_82 rfl (Nat.le_of_ble_eq_true rfl) rfl ?_
        exact am_sub [1, 0] rfl (t_M_format_83 hlt (fun _ _ _ _ h => h) h)
      · replace h := h.2 hc4
        refine am_iconst (v := 0) dM_format_62 (by decide) ?_
        exact am_zret dM_format_63 rfl (Nat.le_of_ble_eq_true rfl) (Nat.le_of_ble_eq_true rfl) (by decide) ⟨_, _, _, rfl, rfl, h⟩
  · replace h := h.2 hc2
    refine am_aload_n 0 dM_format_26 rfl rfl ?_
    refine go_M_bad dM_format_27 (am_tw kw_660 rfl) ?_
    refine am_iload_n 2 dM_format_30 rfl rfl ?_
    obtain ⟨hi14, h⟩ := h
    refine ld_29 hi14 dM_format_31 ?_
    refine am_if_eq 39 dM_format_32 (by decide) (fun hc15 => ?_) (fun hc15 => ?_)
    · replace h := h.1 hc15
      refine am_iload_n 1 dM_format_39 rfl rfl ?_
      refine am_iconst (v := 1) dM_format_40 (by decide) ?_
      refine am_iadd dM_format_41 ?_
      refine am_istore_n (L2 := [(1, .int (x1 + (1 : Int32))), (0, .ref (ad 28)), (2, .int x2)]) dM_format_42 rfl (Nat.le_of_ble_eq_true rfl) rfl ?_
      refine am_iinc (j := 2) (v := x2 + 1) (L2 := [(2, .int (x2 + 1)), (1, .int (x1 + (1 : Int32))), (0, .ref (ad 28))]) dM_format_43 rfl (congrArg (x2 + ·) (by decide : Int32.ofInt (1) = 1)) (Nat.le_of_ble_eq_true rfl) rfl ?_
      refine am_goto 20 dM_format_46 (by decide) ?_
      exact am_sub [2, 1, 0] rfl h
    · replace h := h.2 hc15
      refine am_iload_n 1 dM_format_35 rfl rfl ?_
      refine am_goto 42 dM_format_36 (by decide) ?_
      refine am_istore_n (L2 := [(1, .int x1), (0, .ref (ad 28)), (2, .int x2)]) dM_format_42 rfl (Nat.le_of_ble_eq_true rfl) rfl ?_
      refine am_iinc (j := 2) (v := x2 + 1) (L2 := [(2, .int (x2 + 1)), (1, .int x1), (0, .ref (ad 28))]) dM_format_43 rfl (congrArg (x2 + ·) (by decide : Int32.ofInt (1) = 1)) (Nat.le_of_ble_eq_true rfl) rfl ?_
      refine am_goto 20 dM_format_46 (by decide) ?_
      exact am_sub [2, 1, 0] rfl h

def w_M_format_13 (xs0 : Int32) (I : am_MI) (J : am_MJ) (Q : Int32 → am_MI → am_MJ → Prop) (X : String → am_MI → am_MJ → Prop) : Prop :=
  w_M_format_20 (0 : Int32) (0 : Int32) (am_ui I 28 0 xs0) J Q X
set_option maxRecDepth 20000 in
theorem t_M_format_13 {l : Launch} {D : va_G} {aC : Nat → ClassId} {ad : Nat → Nat} (hlt : l.stackTraces = false) {xs0 : Int32} {I : am_MI} {J : am_MJ} {Q} {X} (h : w_M_format_13 xs0 I J Q X) : am l D aC "BubbleBoxModel" cM_format 3 (some .boolean) false [] am_G0 (am_rm 7) 0 0 0 0 13 [(0, .ref (ad 28))] [.int xs0, .ref (ad 28)] (am_w ad aC I J) (am_li ad aC Q) (am_lx ad aC X) := by
  unfold w_M_format_13 at h
  refine po_M_code dM_format_13 (am_tw kw_659 rfl) ?_
  refine am_iconst (v := 0) dM_format_16 (by decide) ?_
  refine am_istore_n (L2 := [(1, .int 0), (0, .ref (ad 28))]) dM_format_17 rfl (Nat.le_of_ble_eq_true rfl) rfl ?_
  refine am_iconst (v := 0) dM_format_18 (by decide) ?_
  refine am_istore_n (L2 := [(2, .int 0), (1, .int 0), (0, .ref (ad 28))]) dM_format_19 rfl (Nat.le_of_ble_eq_true rfl) rfl ?_
  exact am_sub [2, 1, 0] rfl (t_M_format_20 hlt h)

def w_M_format (I : am_MI) (J : am_MJ) (Q : Int32 → am_MI → am_MJ → Prop) (X : String → am_MI → am_MJ → Prop) : Prop :=
  ((I 28 7) = 0 → (w_M_format_13 (1 : Int32) I J Q X)) ∧ (¬ ((I 28 7) = 0) → (w_M_format_13 (0 : Int32) I J Q X))
set_option maxRecDepth 20000 in
theorem t_M_format {l : Launch} {D : va_G} {aC : Nat → ClassId} {ad : Nat → Nat} (hlt : l.stackTraces = false) {I : am_MI} {J : am_MJ} {Q} {X} (h : w_M_format I J Q X) : am_c l D aC yM_format (.code yM_format cM_format 3 (some .boolean)) (am_rm 7) 0 0 [.ref (ad 28)] (am_w ad aC I J) (am_li ad aC Q) (am_lx ad aC X) := by
  unfold w_M_format at h
  refine am_of (ini := false) hlt (by decide +kernel) (Nat.le_of_ble_eq_true rfl) (fun h => nomatch h) ?_
  show am l D aC "BubbleBoxModel" cM_format 3 (some .boolean) false [] am_G0 (am_rm 7) 0 0 0 0 0 [(0, .ref (ad 28))] [] (am_w ad aC I J) (am_li ad aC Q) (am_lx ad aC X)
  refine am_aload_n 0 dM_format_0 rfl rfl ?_
  refine am_aload_n 0 dM_format_1 rfl rfl ?_
  refine go_M_on dM_format_2 (am_tw kw_666 rfl) ?_
  refine am_if_eq 12 dM_format_5 (by decide) (fun hc1 => ?_) (fun hc1 => ?_)
  · replace h := h.1 hc1
    refine am_iconst (v := 1) dM_format_12 (by decide) ?_
    exact am_sub [0] rfl (t_M_format_13 hlt h)
  · replace h := h.2 hc1
    refine am_iconst (v := 0) dM_format_8 (by decide) ?_
    refine am_goto 13 dM_format_9 (by decide) ?_
    exact am_sub [0] rfl (t_M_format_13 hlt h)
section
variable {l : Launch} {D : va_G} {aC : Nat → ClassId} {ad : Nat → Nat} {own : String} {cc : ByteArray} {nL : Nat} {ret : Option FieldType} {ini : Bool} {tb : List (Nat × Nat × Nat × Nat)} {G : State → (Nat → Prop) → Prop} {rm : Room} {mc ms k n pc idx : Nat} {L : List (Nat × Value)} {st rest : List Value} {I : am_MI} {J : am_MJ} {Q : Option Value → va_W → Prop} {X : String → va_W → Prop}
theorem kV_M_format {K : Int32 → am_MI → am_MJ → Prop} {X1 : String → am_MI → am_MJ → Prop} (hd : decode cc pc = .ok (.invokevirtual idx, 3)) (hlink : Cond.methodLink own idx yM_format ∈ am_TW) (hcat : (rest.map fun v => v.category).sum ≤ 8) (hR : 7 + 1 ≤ rm.frames ∧ 8 + (3 + 11) + 38 * 7 ≤ rm.locals) (hk : k + 1 ≤ rm.cells ∧ n + 6 ≤ rm.slots) (hm : k ≤ mc ∧ n ≤ ms) (hlt : l.stackTraces = false) (h : w_M_format I J K X1) (kk : ∀ (r : Int32) (I1 : am_MI) (J1 : am_MJ), K r I1 J1 → am l D aC own cc nL ret ini [] G rm mc ms k n (pc + 3) L (.int r :: rest) (am_w ad aC I1 J1) Q (am_lx ad aC X1)) : am l D aC own cc nL ret ini [] G rm mc ms k n pc L (.ref (ad 28) :: rest) (am_w ad aC I J) Q (am_lx ad aC X1) := by
  refine am_callV 28 6 (As := []) (N9 := 0) (t_M_format hlt h) hd rfl (am_w_at ad aC I J (by omega)) rfl hlink (am_tw kw_764 rfl) (am_tw kw_762 rfl) (am_tw kw_763 rfl) (am_tw kw_7 rfl) (by decide +kernel) rfl hcat ⟨rfl, rfl⟩ hR hk (fun E ws1 hx => am_out (fun x hx => nomatch hx) (Nat.add_le_add_right hm.1 1) (Nat.add_le_add_right hm.2 6) hx) ?_
  intro v ws1 hq
  obtain ⟨r, I1, J1, rfl, rfl, hq⟩ := hq
  exact kk r I1 J1 hq
end
def w_M_sync_47 (x1 : Int64) (xs0 : Int32) (I : am_MI) (J : am_MJ) (Q : Int32 → am_MI → am_MJ → Prop) (X : String → am_MI → am_MJ → Prop) : Prop :=
  (((am_ui I 28 0 xs0) 28 0) ≤ 0 → (Q (((J 28 5) - x1).toInt32) (am_ui I 28 0 xs0) J)) ∧ (¬ (((am_ui I 28 0 xs0) 28 0) ≤ 0) → (Q 0 (am_ui I 28 0 xs0) J))
set_option maxRecDepth 20000 in
theorem t_M_sync_47 {l : Launch} {D : va_G} {aC : Nat → ClassId} {ad : Nat → Nat} (hlt : l.stackTraces = false) {x1 : Int64} {xs0 : Int32} {I : am_MI} {J : am_MJ} {Q} {X} (h : w_M_sync_47 x1 xs0 I J Q X) : am l D aC "BubbleBoxModel" cM_sync 3 (some .int) false [] am_G0 (am_rm 7) 0 0 0 0 47 [(0, .ref (ad 28)), (1, .long x1)] [.int xs0, .ref (ad 28)] (am_w ad aC I J) (am_li ad aC Q) (am_lx ad aC X) := by
  unfold w_M_sync_47 at h
  refine po_M_code dM_sync_47 (am_tw kw_659 rfl) ?_
  refine am_aload_n 0 dM_sync_50 rfl rfl ?_
  refine go_M_code dM_sync_51 (am_tw kw_659 rfl) ?_
  refine am_if_le 61 dM_sync_54 (by decide) (fun hc10 => ?_) (fun hc10 => ?_)
  · replace h := h.1 hc10
    refine am_aload_n 0 dM_sync_61 rfl rfl ?_
    refine go_M_steps dM_sync_62 (am_tw kw_664 rfl) ?_
    refine am_lload_n 1 dM_sync_65 rfl rfl ?_
    refine am_lsub dM_sync_66 ?_
    refine am_l2i dM_sync_67 ?_
    exact am_iret dM_sync_68 rfl (Nat.le_of_ble_eq_true rfl) (Nat.le_of_ble_eq_true rfl) ⟨_, _, _, rfl, rfl, h⟩
  · replace h := h.2 hc10
    refine am_iconst (v := 0) dM_sync_57 (by decide) ?_
    refine am_goto 68 dM_sync_58 (by decide) ?_
    exact am_iret dM_sync_68 rfl (Nat.le_of_ble_eq_true rfl) (Nat.le_of_ble_eq_true rfl) ⟨_, _, _, rfl, rfl, h⟩

def w_M_sync_13 (xs0 : Int32) (I : am_MI) (J : am_MJ) (Q : Int32 → am_MI → am_MJ → Prop) (X : String → am_MI → am_MJ → Prop) : Prop :=
  (((am_ui I 28 0 xs0) 28 0) ≤ 0 → (w_M_saveAll (am_ui I 28 0 xs0) J (fun (I6 : am_MI) (J7 : am_MJ) => ((I6 28 7) = 0 → (w_M_sync_47 (J 28 5) (1 : Int32) I6 J7 Q X)) ∧ (¬ ((I6 28 7) = 0) → (w_M_sync_47 (J 28 5) (0 : Int32) I6 J7 Q X))) X)) ∧ (¬ (((am_ui I 28 0 xs0) 28 0) ≤ 0) → (Q 0 (am_ui I 28 0 xs0) J))
set_option maxRecDepth 20000 in
theorem t_M_sync_13 {l : Launch} {D : va_G} {aC : Nat → ClassId} {ad : Nat → Nat} (hlt : l.stackTraces = false) {xs0 : Int32} {I : am_MI} {J : am_MJ} {Q} {X} (h : w_M_sync_13 xs0 I J Q X) : am l D aC "BubbleBoxModel" cM_sync 3 (some .int) false [] am_G0 (am_rm 7) 0 0 0 0 13 [(0, .ref (ad 28))] [.int xs0, .ref (ad 28)] (am_w ad aC I J) (am_li ad aC Q) (am_lx ad aC X) := by
  unfold w_M_sync_13 at h
  refine po_M_code dM_sync_13 (am_tw kw_659 rfl) ?_
  refine am_aload_n 0 dM_sync_16 rfl rfl ?_
  refine go_M_code dM_sync_17 (am_tw kw_659 rfl) ?_
  refine am_if_le 25 dM_sync_20 (by decide) (fun hc5 => ?_) (fun hc5 => ?_)
  · replace h := h.1 hc5
    refine am_aload_n 0 dM_sync_25 rfl rfl ?_
    refine go_M_steps dM_sync_26 (am_tw kw_664 rfl) ?_
    refine am_lstore_n (L2 := [(1, .long (J 28 5)), (0, .ref (ad 28))]) dM_sync_29 rfl (Nat.le_of_ble_eq_true rfl) rfl ?_
    refine am_aload_n 1 dM_sync_30 rfl rfl ?_
    refine kV_M_saveAll dM_sync_31 (am_tw kw_766 rfl) (Nat.le_of_ble_eq_true rfl) ⟨Nat.le_of_ble_eq_true rfl, Nat.le_of_ble_eq_true rfl⟩ ⟨Nat.le_of_ble_eq_true rfl, Nat.le_of_ble_eq_true rfl⟩ ⟨Nat.le_of_ble_eq_true rfl, Nat.le_of_ble_eq_true rfl⟩ hlt h (fun I6 J7 h => ?_)
    refine am_aload_n 1 dM_sync_34 rfl rfl ?_
    refine am_aload_n 1 dM_sync_35 rfl rfl ?_
    refine go_M_on dM_sync_36 (am_tw kw_666 rfl) ?_
    refine am_if_eq 46 dM_sync_39 (by decide) (fun hc9 => ?_) (fun hc9 => ?_)
    · replace h := h.1 hc9
      refine am_iconst (v := 1) dM_sync_46 (by decide) ?_
      exact am_sub [1, 0] rfl (t_M_sync_47 hlt h)
    · replace h := h.2 hc9
      refine am_iconst (v := 0) dM_sync_42 (by decide) ?_
      refine am_goto 47 dM_sync_43 (by decide) ?_
      exact am_sub [1, 0] rfl (t_M_sync_47 hlt h)
  · replace h := h.2 hc5
    refine am_iconst (v := 0) dM_sync_23 (by decide) ?_
    exact am_iret dM_sync_24 rfl (Nat.le_of_ble_eq_true rfl) (Nat.le_of_ble_eq_true rfl) ⟨_, _, _, rfl, rfl, h⟩

def w_M_sync (I : am_MI) (J : am_MJ) (Q : Int32 → am_MI → am_MJ → Prop) (X : String → am_MI → am_MJ → Prop) : Prop :=
  w_M_isReady I J (fun (r3 : Int32) (I1 : am_MI) (J2 : am_MJ) => (r3 = 0 → (w_M_sync_13 (1 : Int32) I1 J2 Q X)) ∧ (¬ (r3 = 0) → (w_M_sync_13 (0 : Int32) I1 J2 Q X))) X
set_option maxRecDepth 20000 in
theorem t_M_sync {l : Launch} {D : va_G} {aC : Nat → ClassId} {ad : Nat → Nat} (hlt : l.stackTraces = false) {I : am_MI} {J : am_MJ} {Q} {X} (h : w_M_sync I J Q X) : am_c l D aC yM_sync (.code yM_sync cM_sync 3 (some .int)) (am_rm 7) 0 0 [.ref (ad 28)] (am_w ad aC I J) (am_li ad aC Q) (am_lx ad aC X) := by
  unfold w_M_sync at h
  refine am_of (ini := false) hlt (by decide +kernel) (Nat.le_of_ble_eq_true rfl) (fun h => nomatch h) ?_
  show am l D aC "BubbleBoxModel" cM_sync 3 (some .int) false [] am_G0 (am_rm 7) 0 0 0 0 0 [(0, .ref (ad 28))] [] (am_w ad aC I J) (am_li ad aC Q) (am_lx ad aC X)
  refine am_aload_n 0 dM_sync_0 rfl rfl ?_
  refine am_aload_n 0 dM_sync_1 rfl rfl ?_
  refine kV_M_isReady dM_sync_2 (am_tw kw_836 rfl) (Nat.le_of_ble_eq_true rfl) ⟨Nat.le_of_ble_eq_true rfl, Nat.le_of_ble_eq_true rfl⟩ ⟨Nat.le_of_ble_eq_true rfl, Nat.le_of_ble_eq_true rfl⟩ ⟨Nat.le_of_ble_eq_true rfl, Nat.le_of_ble_eq_true rfl⟩ hlt h (fun r3 I1 J2 h => ?_)
  refine am_if_eq 12 dM_sync_5 (by decide) (fun hc4 => ?_) (fun hc4 => ?_)
  · replace h := h.1 hc4
    refine am_iconst (v := 1) dM_sync_12 (by decide) ?_
    exact am_sub [0] rfl (t_M_sync_13 hlt h)
  · replace h := h.2 hc4
    refine am_iconst (v := 0) dM_sync_8 (by decide) ?_
    refine am_goto 13 dM_sync_9 (by decide) ?_
    exact am_sub [0] rfl (t_M_sync_13 hlt h)
section
variable {l : Launch} {D : va_G} {aC : Nat → ClassId} {ad : Nat → Nat} {own : String} {cc : ByteArray} {nL : Nat} {ret : Option FieldType} {ini : Bool} {tb : List (Nat × Nat × Nat × Nat)} {G : State → (Nat → Prop) → Prop} {rm : Room} {mc ms k n pc idx : Nat} {L : List (Nat × Value)} {st rest : List Value} {I : am_MI} {J : am_MJ} {Q : Option Value → va_W → Prop} {X : String → va_W → Prop}
theorem kV_M_sync {K : Int32 → am_MI → am_MJ → Prop} {X1 : String → am_MI → am_MJ → Prop} (hd : decode cc pc = .ok (.invokevirtual idx, 3)) (hlink : Cond.methodLink own idx yM_sync ∈ am_TW) (hcat : (rest.map fun v => v.category).sum ≤ 8) (hR : 7 + 1 ≤ rm.frames ∧ 8 + (3 + 11) + 38 * 7 ≤ rm.locals) (hk : k + 1 ≤ rm.cells ∧ n + 6 ≤ rm.slots) (hm : k ≤ mc ∧ n ≤ ms) (hlt : l.stackTraces = false) (h : w_M_sync I J K X1) (kk : ∀ (r : Int32) (I1 : am_MI) (J1 : am_MJ), K r I1 J1 → am l D aC own cc nL ret ini [] G rm mc ms k n (pc + 3) L (.int r :: rest) (am_w ad aC I1 J1) Q (am_lx ad aC X1)) : am l D aC own cc nL ret ini [] G rm mc ms k n pc L (.ref (ad 28) :: rest) (am_w ad aC I J) Q (am_lx ad aC X1) := by
  refine am_callV 28 6 (As := []) (N9 := 0) (t_M_sync hlt h) hd rfl (am_w_at ad aC I J (by omega)) rfl hlink (am_tw kw_896 rfl) (am_tw kw_894 rfl) (am_tw kw_895 rfl) (am_tw kw_7 rfl) (by decide +kernel) rfl hcat ⟨rfl, rfl⟩ hR hk (fun E ws1 hx => am_out (fun x hx => nomatch hx) (Nat.add_le_add_right hm.1 1) (Nat.add_le_add_right hm.2 6) hx) ?_
  intro v ws1 hq
  obtain ⟨r, I1, J1, rfl, rfl, hq⟩ := hq
  exact kk r I1 J1 hq
end
