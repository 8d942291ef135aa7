def w_D_holdOwned_2 (x1 : Int32) (I : am_MI) (J : am_MJ) (Q : am_MI → am_MJ → Prop) (X : String → am_MI → am_MJ → Prop) : Prop :=
  ∀ P2 : Int32 → am_MI → am_MJ → Prop, (∀ (x1 : Int32) (I : am_MI) (J : am_MJ), (((101 : Int32) ≤ x1 → (Q I J)) ∧ (¬ ((101 : Int32) ≤ x1) → (vp_in x1 101 ∧ (vp_in x1 101 ∧ (P2 (x1 + 1) (am_ui I 16 x1.toNatClampNeg (vp_nar .boolean (I 15 x1.toNatClampNeg))) J))))) → P2 x1 I J) → P2 x1 I J
set_option maxRecDepth 20000 in
theorem t_D_holdOwned_2 {l : Launch} {D : va_G} {aC : Nat → ClassId} {ad : Nat → Nat} (hlt : l.stackTraces = false) {x1 : Int32} {I : am_MI} {J : am_MJ} {Q} {X} (h : w_D_holdOwned_2 x1 I J Q X) : am l D aC "BubbleBox$Directory" cD_holdOwned 2 none false [] am_G0 (am_rm 1) 0 0 0 0 2 [(0, .ref (ad 4)), (1, .int x1)] [] (am_w ad aC I J) (am_lv ad aC Q) (am_lx ad aC X) := by
  unfold w_D_holdOwned_2 at h
  refine h (fun (x1 : Int32) (I : am_MI) (J : am_MJ) => am l D aC "BubbleBox$Directory" cD_holdOwned 2 none false [] am_G0 (am_rm 1) 0 0 0 0 2 [(0, .ref (ad 4)), (1, .int x1)] [] (am_w ad aC I J) (am_lv ad aC Q) (am_lx ad aC X)) (fun x1 I J h => ?_)
  refine am_iload_n 1 dD_holdOwned_2 rfl rfl ?_
  refine am_bipush (v := 101) dD_holdOwned_3 (by decide) ?_
  refine am_icmp_ge 26 dD_holdOwned_5 (by decide) (fun hc1 => ?_) (fun hc1 => ?_)
  · replace h := h.1 hc1
    exact am_vret dD_holdOwned_26 rfl (Nat.le_of_ble_eq_true rfl) (Nat.le_of_ble_eq_true rfl) ⟨_, _, rfl, rfl, h⟩
  · replace h := h.2 hc1
    refine am_aload_n 0 dD_holdOwned_8 rfl rfl ?_
    refine go_D_held dD_holdOwned_9 (am_tw kw_96 rfl) ?_
    refine am_iload_n 1 dD_holdOwned_12 rfl rfl ?_
    refine am_aload_n 0 dD_holdOwned_13 rfl rfl ?_
    refine go_D_owned dD_holdOwned_14 (am_tw kw_95 rfl) ?_
    refine am_iload_n 1 dD_holdOwned_17 rfl rfl ?_
    obtain ⟨hi2, h⟩ := h
    refine ld_15 hi2 dD_holdOwned_18 ?_
    obtain ⟨hi3, h⟩ := h
    refine st_16 hi3 dD_holdOwned_19 ?_
    refine am_iinc (j := 1) (v := x1 + 1) (L2 := [(1, .int (x1 + 1)), (0, .ref (ad 4))]) dD_holdOwned_20 rfl (congrArg (x1 + ·) (by decide : Int32.ofInt (1) = 1)) (Nat.le_of_ble_eq_true rfl) rfl ?_
    refine am_goto 2 dD_holdOwned_23 (by decide) ?_
    exact am_sub [1, 0] rfl h

def w_D_holdOwned (I : am_MI) (J : am_MJ) (Q : am_MI → am_MJ → Prop) (X : String → am_MI → am_MJ → Prop) : Prop :=
  w_D_holdOwned_2 (0 : Int32) I J Q X
set_option maxRecDepth 20000 in
theorem t_D_holdOwned {l : Launch} {D : va_G} {aC : Nat → ClassId} {ad : Nat → Nat} (hlt : l.stackTraces = false) {I : am_MI} {J : am_MJ} {Q} {X} (h : w_D_holdOwned I J Q X) : am_c l D aC yD_holdOwned (.code yD_holdOwned cD_holdOwned 2 none) (am_rm 1) 0 0 [.ref (ad 4)] (am_w ad aC I J) (am_lv ad aC Q) (am_lx ad aC X) := by
  unfold w_D_holdOwned at h
  refine am_of (ini := false) hlt (by decide +kernel) (Nat.le_of_ble_eq_true rfl) (fun h => nomatch h) ?_
  show am l D aC "BubbleBox$Directory" cD_holdOwned 2 none false [] am_G0 (am_rm 1) 0 0 0 0 0 [(0, .ref (ad 4))] [] (am_w ad aC I J) (am_lv ad aC Q) (am_lx ad aC X)
  refine am_iconst (v := 0) dD_holdOwned_0 (by decide) ?_
  refine am_istore_n (L2 := [(1, .int 0), (0, .ref (ad 4))]) dD_holdOwned_1 rfl (Nat.le_of_ble_eq_true rfl) rfl ?_
  exact am_sub [1, 0] rfl (t_D_holdOwned_2 hlt h)
section
variable {l : Launch} {D : va_G} {aC : Nat → ClassId} {ad : Nat → Nat} {own : String} {cc : ByteArray} {nL : Nat} {ret : Option FieldType} {ini : Bool} {tb : List (Nat × Nat × Nat × Nat)} {G : State → (Nat → Prop) → Prop} {rm : Room} {mc ms k n pc idx : Nat} {L : List (Nat × Value)} {st rest : List Value} {I : am_MI} {J : am_MJ} {Q : Option Value → va_W → Prop} {X : String → va_W → Prop}
theorem kV_D_holdOwned {K : am_MI → am_MJ → Prop} {X1 : String → am_MI → am_MJ → Prop} (hd : decode cc pc = .ok (.invokevirtual idx, 3)) (hlink : Cond.methodLink own idx yD_holdOwned ∈ am_TW) (hcat : (rest.map fun v => v.category).sum ≤ 8) (hR : 1 + 1 ≤ rm.frames ∧ 8 + (2 + 11) + 38 * 1 ≤ rm.locals) (hk : k + 1 ≤ rm.cells ∧ n + 6 ≤ rm.slots) (hm : k ≤ mc ∧ n ≤ ms) (hlt : l.stackTraces = false) (h : w_D_holdOwned I J K X1) (kk : ∀ (I1 : am_MI) (J1 : am_MJ), K I1 J1 → am l D aC own cc nL ret ini [] G rm mc ms k n (pc + 3) L rest (am_w ad aC I1 J1) Q (am_lx ad aC X1)) : am l D aC own cc nL ret ini [] G rm mc ms k n pc L (.ref (ad 4) :: rest) (am_w ad aC I J) Q (am_lx ad aC X1) := by
  refine am_callV 4 2 (As := []) (N9 := 0) (t_D_holdOwned hlt h) hd rfl (am_w_at ad aC I J (by omega)) rfl hlink (am_tw kw_340 rfl) (am_tw kw_339 rfl) ks_18 (am_tw kw_3 rfl) (by decide +kernel) rfl hcat ⟨rfl, rfl⟩ hR hk (fun E ws1 hx => am_out (fun x hx => nomatch hx) (Nat.add_le_add_right hm.1 1) (Nat.add_le_add_right hm.2 6) hx) ?_
  intro v ws1 hq
  obtain ⟨I1, J1, rfl, rfl, hq⟩ := hq
  exact kk I1 J1 hq
end
section
variable {l : Launch} {D : va_G} {aC : Nat → ClassId} {ad : Nat → Nat} {own : String} {cc : ByteArray} {nL : Nat} {ret : Option FieldType} {ini : Bool} {tb : List (Nat × Nat × Nat × Nat)} {G : State → (Nat → Prop) → Prop} {rm : Room} {mc ms k n pc idx : Nat} {L : List (Nat × Value)} {st rest : List Value} {I : am_MI} {J : am_MJ} {Q : Option Value → va_W → Prop} {X : String → va_W → Prop}
theorem kVN_D_holdOwned {K : am_MI → am_MJ → Prop} (hd : decode cc pc = .ok (.invokevirtual idx, 3)) (hlink : Cond.methodLinkNest own idx yD_holdOwned "BubbleBox" ∈ am_TN) (hcat : (rest.map fun v => v.category).sum ≤ 8) (hR : 1 + 1 ≤ rm.frames ∧ 8 + (2 + 11) + 38 * 1 ≤ rm.locals) (hk : k + 1 ≤ rm.cells ∧ n + 6 ≤ rm.slots) (hm : k ≤ mc ∧ n ≤ ms) (hlt : l.stackTraces = false) (h : w_D_holdOwned I J K (fun _ _ _ => False)) (kk : ∀ (I1 : am_MI) (J1 : am_MJ), K I1 J1 → am l D aC own cc nL ret ini tb G rm mc ms k n (pc + 3) L rest (am_w ad aC I1 J1) Q X) : am l D aC own cc nL ret ini tb G rm mc ms k n pc L (.ref (ad 4) :: rest) (am_w ad aC I J) Q X := by
  refine am_callVN 4 2 (As := []) (N9 := 0) (am_cF (t_D_holdOwned hlt h)) hd rfl (am_w_at ad aC I J (by omega)) rfl hlink (am_tw kw_340 rfl) (am_tw kw_339 rfl) ks_18 (am_tw kw_3 rfl) (by decide +kernel) rfl hcat ⟨rfl, rfl⟩ hR hk ?_
  intro v ws1 hq
  obtain ⟨I1, J1, rfl, rfl, hq⟩ := hq
  exact kk I1 J1 hq
end

def w_D_isFree (a0 : Int32) (I : am_MI) (J : am_MJ) (Q : Int32 → am_MI → am_MJ → Prop) (X : String → am_MI → am_MJ → Prop) : Prop :=
  (a0 < (40 : Int32) → (Q 0 I J)) ∧ (¬ (a0 < (40 : Int32)) → (vp_in a0 101 ∧ ((¬ (I 15 a0.toNatClampNeg) = 0 → (Q 0 I J)) ∧ ((I 15 a0.toNatClampNeg) = 0 → (vp_in a0 101 ∧ ((¬ (I 16 a0.toNatClampNeg) = 0 → (Q 0 I J)) ∧ ((I 16 a0.toNatClampNeg) = 0 → (Q 1 I J))))))))
set_option maxRecDepth 20000 in
theorem t_D_isFree {l : Launch} {D : va_G} {aC : Nat → ClassId} {ad : Nat → Nat} (hlt : l.stackTraces = false) {a0 : Int32} {I : am_MI} {J : am_MJ} {Q} {X} (h : w_D_isFree a0 I J Q X) : am_c l D aC yD_isFree (.code yD_isFree cD_isFree 2 (some .boolean)) (am_rm 1) 0 0 [.ref (ad 4), .int a0] (am_w ad aC I J) (am_li ad aC Q) (am_lx ad aC X) := by
  unfold w_D_isFree at h
  refine am_of (ini := false) hlt (by decide +kernel) (Nat.le_of_ble_eq_true rfl) (fun h => nomatch h) ?_
  show am l D aC "BubbleBox$Directory" cD_isFree 2 (some .boolean) false [] am_G0 (am_rm 1) 0 0 0 0 0 [(0, .ref (ad 4)), (1, .int a0)] [] (am_w ad aC I J) (am_li ad aC Q) (am_lx ad aC X)
  refine am_iload_n 1 dD_isFree_0 rfl rfl ?_
  refine am_bipush (v := 40) dD_isFree_1 (by decide) ?_
  refine am_icmp_lt 28 dD_isFree_3 (by decide) (fun hc1 => ?_) (fun hc1 => ?_)
  · replace h := h.1 hc1
    refine am_iconst (v := 0) dD_isFree_28 (by decide) ?_
    exact am_zret dD_isFree_29 rfl (Nat.le_of_ble_eq_true rfl) (Nat.le_of_ble_eq_true rfl) (by decide) ⟨_, _, _, rfl, rfl, h⟩
  · replace h := h.2 hc1
    refine am_aload_n 0 dD_isFree_6 rfl rfl ?_
    refine go_D_owned dD_isFree_7 (am_tw kw_95 rfl) ?_
    refine am_iload_n 1 dD_isFree_10 rfl rfl ?_
    obtain ⟨hi2, h⟩ := h
    refine ld_15 hi2 dD_isFree_11 ?_
    refine am_if_ne 28 dD_isFree_12 (by decide) (fun hc3 => ?_) (fun hc3 => ?_)
    · replace h := h.1 hc3
      refine am_iconst (v := 0) dD_isFree_28 (by decide) ?_
      exact am_zret dD_isFree_29 rfl (Nat.le_of_ble_eq_true rfl) (Nat.le_of_ble_eq_true rfl) (by decide) ⟨_, _, _, rfl, rfl, h⟩
    · replace h := h.2 hc3
      refine am_aload_n 0 dD_isFree_15 rfl rfl ?_
      refine go_D_held dD_isFree_16 (am_tw kw_96 rfl) ?_
      refine am_iload_n 1 dD_isFree_19 rfl rfl ?_
      obtain ⟨hi4, h⟩ := h
      refine ld_16 hi4 dD_isFree_20 ?_
      refine am_if_ne 28 dD_isFree_21 (by decide) (fun hc5 => ?_) (fun hc5 => ?_)
      · replace h := h.1 hc5
        refine am_iconst (v := 0) dD_isFree_28 (by decide) ?_
        exact am_zret dD_isFree_29 rfl (Nat.le_of_ble_eq_true rfl) (Nat.le_of_ble_eq_true rfl) (by decide) ⟨_, _, _, rfl, rfl, h⟩
      · replace h := h.2 hc5
        refine am_iconst (v := 1) dD_isFree_24 (by decide) ?_
        refine am_goto 29 dD_isFree_25 (by decide) ?_
        exact am_zret dD_isFree_29 rfl (Nat.le_of_ble_eq_true rfl) (Nat.le_of_ble_eq_true rfl) (by decide) ⟨_, _, _, rfl, rfl, h⟩
section
variable {l : Launch} {D : va_G} {aC : Nat → ClassId} {ad : Nat → Nat} {own : String} {cc : ByteArray} {nL : Nat} {ret : Option FieldType} {ini : Bool} {tb : List (Nat × Nat × Nat × Nat)} {G : State → (Nat → Prop) → Prop} {rm : Room} {mc ms k n pc idx : Nat} {L : List (Nat × Value)} {st rest : List Value} {I : am_MI} {J : am_MJ} {Q : Option Value → va_W → Prop} {X : String → va_W → Prop}
theorem kV_D_isFree {a0 : Int32} {K : Int32 → am_MI → am_MJ → Prop} {X1 : String → am_MI → am_MJ → Prop} (hd : decode cc pc = .ok (.invokevirtual idx, 3)) (hlink : Cond.methodLink own idx yD_isFree ∈ am_TW) (hcat : (rest.map fun v => v.category).sum ≤ 8) (hR : 1 + 1 ≤ rm.frames ∧ 8 + (2 + 11) + 38 * 1 ≤ rm.locals) (hk : k + 1 ≤ rm.cells ∧ n + 6 ≤ rm.slots) (hm : k ≤ mc ∧ n ≤ ms) (hlt : l.stackTraces = false) (h : w_D_isFree a0 I J K X1) (kk : ∀ (r : Int32) (I1 : am_MI) (J1 : am_MJ), K r I1 J1 → am l D aC own cc nL ret ini [] G rm mc ms k n (pc + 3) L (.int r :: rest) (am_w ad aC I1 J1) Q (am_lx ad aC X1)) : am l D aC own cc nL ret ini [] G rm mc ms k n pc L (.int a0 :: .ref (ad 4) :: rest) (am_w ad aC I J) Q (am_lx ad aC X1) := by
  refine am_callV 4 2 (As := [.int a0]) (N9 := 1) (t_D_isFree hlt h) hd rfl (am_w_at ad aC I J (by omega)) rfl hlink (am_tw kw_490 rfl) (am_tw kw_489 rfl) ks_34 (am_tw kw_3 rfl) (by decide +kernel) rfl hcat ⟨rfl, rfl⟩ hR hk (fun E ws1 hx => am_out (fun x hx => nomatch hx) (Nat.add_le_add_right hm.1 1) (Nat.add_le_add_right hm.2 6) hx) ?_
  intro v ws1 hq
  obtain ⟨r, I1, J1, rfl, rfl, hq⟩ := hq
  exact kk r I1 J1 hq
end
section
variable {l : Launch} {D : va_G} {aC : Nat → ClassId} {ad : Nat → Nat} {own : String} {cc : ByteArray} {nL : Nat} {ret : Option FieldType} {ini : Bool} {tb : List (Nat × Nat × Nat × Nat)} {G : State → (Nat → Prop) → Prop} {rm : Room} {mc ms k n pc idx : Nat} {L : List (Nat × Value)} {st rest : List Value} {I : am_MI} {J : am_MJ} {Q : Option Value → va_W → Prop} {X : String → va_W → Prop}
theorem kVN_D_isFree {a0 : Int32} {K : Int32 → am_MI → am_MJ → Prop} (hd : decode cc pc = .ok (.invokevirtual idx, 3)) (hlink : Cond.methodLinkNest own idx yD_isFree "BubbleBox" ∈ am_TN) (hcat : (rest.map fun v => v.category).sum ≤ 8) (hR : 1 + 1 ≤ rm.frames ∧ 8 + (2 + 11) + 38 * 1 ≤ rm.locals) (hk : k + 1 ≤ rm.cells ∧ n + 6 ≤ rm.slots) (hm : k ≤ mc ∧ n ≤ ms) (hlt : l.stackTraces = false) (h : w_D_isFree a0 I J K (fun _ _ _ => False)) (kk : ∀ (r : Int32) (I1 : am_MI) (J1 : am_MJ), K r I1 J1 → am l D aC own cc nL ret ini tb G rm mc ms k n (pc + 3) L (.int r :: rest) (am_w ad aC I1 J1) Q X) : am l D aC own cc nL ret ini tb G rm mc ms k n pc L (.int a0 :: .ref (ad 4) :: rest) (am_w ad aC I J) Q X := by
  refine am_callVN 4 2 (As := [.int a0]) (N9 := 1) (am_cF (t_D_isFree hlt h)) hd rfl (am_w_at ad aC I J (by omega)) rfl hlink (am_tw kw_490 rfl) (am_tw kw_489 rfl) ks_34 (am_tw kw_3 rfl) (by decide +kernel) rfl hcat ⟨rfl, rfl⟩ hR hk ?_
  intro v ws1 hq
  obtain ⟨r, I1, J1, rfl, rfl, hq⟩ := hq
  exact kk r I1 J1 hq
end
def w_D_numberOf_2 (x1 : Int32) (x2 : Int32) (I : am_MI) (J : am_MJ) (Q : Int32 → am_MI → am_MJ → Prop) (X : String → am_MI → am_MJ → Prop) : Prop :=
  ∀ P2 : Int32 → am_MI → am_MJ → Prop, (∀ (x2 : Int32) (I : am_MI) (J : am_MJ), (((8 : Int32) ≤ x2 → (Q (-1) I J)) ∧ (¬ ((8 : Int32) ≤ x2) → (vp_in x2 8 ∧ ((¬ (I (6 + x2.toNatClampNeg) 0) = x1 → (P2 (x2 + 1) I J)) ∧ ((I (6 + x2.toNatClampNeg) 0) = x1 → (Q x2 I J)))))) → P2 x2 I J) → P2 x2 I J
set_option maxRecDepth 20000 in
theorem t_D_numberOf_2 {l : Launch} {D : va_G} {aC : Nat → ClassId} {ad : Nat → Nat} (hlt : l.stackTraces = false) {x1 : Int32} {x2 : Int32} {I : am_MI} {J : am_MJ} {Q} {X} (h : w_D_numberOf_2 x1 x2 I J Q X) : am l D aC "BubbleBox$Directory" cD_numberOf 3 (some .int) false [] am_G0 (am_rm 1) 0 0 0 0 2 [(0, .ref (ad 4)), (1, .int x1), (2, .int x2)] [] (am_w ad aC I J) (am_li ad aC Q) (am_lx ad aC X) := by
  unfold w_D_numberOf_2 at h
  refine h (fun (x2 : Int32) (I : am_MI) (J : am_MJ) => am l D aC "BubbleBox$Directory" cD_numberOf 3 (some .int) false [] am_G0 (am_rm 1) 0 0 0 0 2 [(0, .ref (ad 4)), (1, .int x1), (2, .int x2)] [] (am_w ad aC I J) (am_li ad aC Q) (am_lx ad aC X)) (fun x2 I J h => ?_)
  refine am_iload_n 2 dD_numberOf_2 rfl rfl ?_
  refine am_bipush (v := 8) dD_numberOf_3 (by decide) ?_
  refine am_icmp_ge 29 dD_numberOf_5 (by decide) (fun hc1 => ?_) (fun hc1 => ?_)
  · replace h := h.1 hc1
    refine am_iconst (v := (-1)) dD_numberOf_29 (by decide) ?_
    exact am_iret dD_numberOf_30 rfl (Nat.le_of_ble_eq_true rfl) (Nat.le_of_ble_eq_true rfl) ⟨_, _, _, rfl, rfl, h⟩
  · replace h := h.2 hc1
    refine am_aload_n 0 dD_numberOf_8 rfl rfl ?_
    refine go_D_entries dD_numberOf_9 (am_tw kw_92 rfl) ?_
    refine am_iload_n 2 dD_numberOf_12 rfl rfl ?_
    obtain ⟨hi2, h⟩ := h
    refine al_5 hi2 dD_numberOf_13 ?_
    refine gn_E_name (am_lt hi2) dD_numberOf_14 (am_tn kw_65 rfl) ?_
    refine am_iload_n 1 dD_numberOf_17 rfl rfl ?_
    refine am_icmp_ne 23 dD_numberOf_18 (by decide) (fun hc3 => ?_) (fun hc3 => ?_)
    · replace h := h.1 hc3
      refine am_iinc (j := 2) (v := x2 + 1) (L2 := [(2, .int (x2 + 1)), (0, .ref (ad 4)), (1, .int x1)]) dD_numberOf_23 rfl (congrArg (x2 + ·) (by decide : Int32.ofInt (1) = 1)) (Nat.le_of_ble_eq_true rfl) rfl ?_
      refine am_goto 2 dD_numberOf_26 (by decide) ?_
      exact am_sub [1, 2, 0] rfl h
    · replace h := h.2 hc3
      refine am_iload_n 2 dD_numberOf_21 rfl rfl ?_
      exact am_iret dD_numberOf_22 rfl (Nat.le_of_ble_eq_true rfl) (Nat.le_of_ble_eq_true rfl) ⟨_, _, _, rfl, rfl, h⟩

def w_D_numberOf (a0 : Int32) (I : am_MI) (J : am_MJ) (Q : Int32 → am_MI → am_MJ → Prop) (X : String → am_MI → am_MJ → Prop) : Prop :=
  w_D_numberOf_2 a0 (0 : Int32) I J Q X
set_option maxRecDepth 20000 in
theorem t_D_numberOf {l : Launch} {D : va_G} {aC : Nat → ClassId} {ad : Nat → Nat} (hlt : l.stackTraces = false) {a0 : Int32} {I : am_MI} {J : am_MJ} {Q} {X} (h : w_D_numberOf a0 I J Q X) : am_c l D aC yD_numberOf (.code yD_numberOf cD_numberOf 3 (some .int)) (am_rm 1) 0 0 [.ref (ad 4), .int a0] (am_w ad aC I J) (am_li ad aC Q) (am_lx ad aC X) := by
  unfold w_D_numberOf at h
  refine am_of (ini := false) hlt (by decide +kernel) (Nat.le_of_ble_eq_true rfl) (fun h => nomatch h) ?_
  show am l D aC "BubbleBox$Directory" cD_numberOf 3 (some .int) false [] am_G0 (am_rm 1) 0 0 0 0 0 [(0, .ref (ad 4)), (1, .int a0)] [] (am_w ad aC I J) (am_li ad aC Q) (am_lx ad aC X)
  refine am_iconst (v := 0) dD_numberOf_0 (by decide) ?_
  refine am_istore_n (L2 := [(2, .int 0), (0, .ref (ad 4)), (1, .int a0)]) dD_numberOf_1 rfl (Nat.le_of_ble_eq_true rfl) rfl ?_
  exact am_sub [1, 2, 0] rfl (t_D_numberOf_2 hlt h)
section
variable {l : Launch} {D : va_G} {aC : Nat → ClassId} {ad : Nat → Nat} {own : String} {cc : ByteArray} {nL : Nat} {ret : Option FieldType} {ini : Bool} {tb : List (Nat × Nat × Nat × Nat)} {G : State → (Nat → Prop) → Prop} {rm : Room} {mc ms k n pc idx : Nat} {L : List (Nat × Value)} {st rest : List Value} {I : am_MI} {J : am_MJ} {Q : Option Value → va_W → Prop} {X : String → va_W → Prop}
theorem kVN_D_numberOf {a0 : Int32} {K : Int32 → am_MI → am_MJ → Prop} (hd : decode cc pc = .ok (.invokevirtual idx, 3)) (hlink : Cond.methodLinkNest own idx yD_numberOf "BubbleBox" ∈ am_TN) (hcat : (rest.map fun v => v.category).sum ≤ 8) (hR : 1 + 1 ≤ rm.frames ∧ 8 + (3 + 11) + 38 * 1 ≤ rm.locals) (hk : k + 1 ≤ rm.cells ∧ n + 6 ≤ rm.slots) (hm : k ≤ mc ∧ n ≤ ms) (hlt : l.stackTraces = false) (h : w_D_numberOf a0 I J K (fun _ _ _ => False)) (kk : ∀ (r : Int32) (I1 : am_MI) (J1 : am_MJ), K r I1 J1 → am l D aC own cc nL ret ini tb G rm mc ms k n (pc + 3) L (.int r :: rest) (am_w ad aC I1 J1) Q X) : am l D aC own cc nL ret ini tb G rm mc ms k n pc L (.int a0 :: .ref (ad 4) :: rest) (am_w ad aC I J) Q X := by
  refine am_callVN 4 2 (As := [.int a0]) (N9 := 1) (am_cF (t_D_numberOf hlt h)) hd rfl (am_w_at ad aC I J (by omega)) rfl hlink (am_tw kw_431 rfl) (am_tw kw_430 rfl) ks_29 (am_tw kw_3 rfl) (by decide +kernel) rfl hcat ⟨rfl, rfl⟩ hR hk ?_
  intro v ws1 hq
  obtain ⟨r, I1, J1, rfl, rfl, hq⟩ := hq
  exact kk r I1 J1 hq
end
def w_D_pageAt_8 (x2 : Int32) (x3 : Int32) (x4 : Int32) (I : am_MI) (J : am_MJ) (Q : Int32 → am_MI → am_MJ → Prop) (X : String → am_MI → am_MJ → Prop) : Prop :=
  ∀ P8 : Int32 → Int32 → am_MI → am_MJ → Prop, (∀ (x3 : Int32) (x4 : Int32) (I : am_MI) (J : am_MJ), ((x2 ≤ x4 → (Q x3 I J)) ∧ (¬ (x2 ≤ x4) → (vp_in x3 101 ∧ (P8 (I 14 x3.toNatClampNeg) (x4 + 1) I J)))) → P8 x3 x4 I J) → P8 x3 x4 I J
set_option maxRecDepth 20000 in
theorem t_D_pageAt_8 {l : Launch} {D : va_G} {aC : Nat → ClassId} {ad : Nat → Nat} (hlt : l.stackTraces = false) {x2 : Int32} {x3 : Int32} {x4 : Int32} {I : am_MI} {J : am_MJ} {Q} {X} (h : w_D_pageAt_8 x2 x3 x4 I J Q X) : am l D aC "BubbleBox$Directory" cD_pageAt 5 (some .int) false [] am_G0 (am_rm 1) 0 0 0 0 8 [(0, .ref (ad 4)), (2, .int x2), (3, .int x3), (4, .int x4)] [] (am_w ad aC I J) (am_li ad aC Q) (am_lx ad aC X) := by
  unfold w_D_pageAt_8 at h
  refine h (fun (x3 : Int32) (x4 : Int32) (I : am_MI) (J : am_MJ) => am l D aC "BubbleBox$Directory" cD_pageAt 5 (some .int) false [] am_G0 (am_rm 1) 0 0 0 0 8 [(0, .ref (ad 4)), (2, .int x2), (3, .int x3), (4, .int x4)] [] (am_w ad aC I J) (am_li ad aC Q) (am_lx ad aC X)) (fun x3 x4 I J h => ?_)
  refine am_iload 3 dD_pageAt_8 rfl ?_
  refine am_iload_n 1 dD_pageAt_10 rfl rfl ?_
  refine am_icmp_ge 27 dD_pageAt_11 (by decide) (fun hc1 => ?_) (fun hc1 => ?_)
  · replace h := h.1 hc1
    refine am_iload_n 2 dD_pageAt_27 rfl rfl ?_
    exact am_iret dD_pageAt_28 rfl (Nat.le_of_ble_eq_true rfl) (Nat.le_of_ble_eq_true rfl) ⟨_, _, _, rfl, rfl, h⟩
  · replace h := h.2 hc1
    refine am_aload_n 0 dD_pageAt_14 rfl rfl ?_
    refine go_D_behind dD_pageAt_15 (am_tw kw_94 rfl) ?_
    refine am_iload_n 2 dD_pageAt_18 rfl rfl ?_
    obtain ⟨hi2, h⟩ := h
    refine ld_14 hi2 dD_pageAt_19 ?_
    refine am_istore_n (L2 := [(3, .int (I 14 x3.toNatClampNeg)), (0, .ref (ad 4)), (2, .int x2), (4, .int x4)]) dD_pageAt_20 rfl (Nat.le_of_ble_eq_true rfl) rfl ?_
    refine am_iinc (j := 3) (v := x4 + 1) (L2 := [(4, .int (x4 + 1)), (3, .int (I 14 x3.toNatClampNeg)), (0, .ref (ad 4)), (2, .int x2)]) dD_pageAt_21 rfl (congrArg (x4 + ·) (by decide : Int32.ofInt (1) = 1)) (Nat.le_of_ble_eq_true rfl) rfl ?_
    refine am_goto 8 dD_pageAt_24 (by decide) ?_
    exact am_sub [2, 3, 1, 0] rfl h

def w_D_pageAt (e1 : Nat) (a1 : Int32) (I : am_MI) (J : am_MJ) (Q : Int32 → am_MI → am_MJ → Prop) (X : String → am_MI → am_MJ → Prop) : Prop :=
  w_D_pageAt_8 a1 (I (6 + e1) 1) (0 : Int32) I J Q X
set_option maxRecDepth 20000 in
theorem t_D_pageAt {l : Launch} {D : va_G} {aC : Nat → ClassId} {ad : Nat → Nat} (hlt : l.stackTraces = false) {e1 : Nat} {a1 : Int32} (he1 : e1 < 8) {I : am_MI} {J : am_MJ} {Q} {X} (h : w_D_pageAt e1 a1 I J Q X) : am_c l D aC yD_pageAt (.code yD_pageAt cD_pageAt 5 (some .int)) (am_rm 1) 0 0 [.ref (ad 4), .ref (ad (6 + e1)), .int a1] (am_w ad aC I J) (am_li ad aC Q) (am_lx ad aC X) := by
  unfold w_D_pageAt at h
  refine am_of (ini := false) hlt (by decide +kernel) (Nat.le_of_ble_eq_true rfl) (fun h => nomatch h) ?_
  show am l D aC "BubbleBox$Directory" cD_pageAt 5 (some .int) false [] am_G0 (am_rm 1) 0 0 0 0 0 [(0, .ref (ad 4)), (1, .ref (ad (6 + e1))), (2, .int a1)] [] (am_w ad aC I J) (am_li ad aC Q) (am_lx ad aC X)
  refine am_aload_n 1 dD_pageAt_0 rfl rfl ?_
  refine gn_E_firstPage he1 dD_pageAt_1 (am_tn kw_68 rfl) ?_
  refine am_istore_n (L2 := [(3, .int (I (6 + e1) 1)), (0, .ref (ad 4)), (1, .ref (ad (6 + e1))), (2, .int a1)]) dD_pageAt_4 rfl (Nat.le_of_ble_eq_true rfl) rfl ?_
  refine am_iconst (v := 0) dD_pageAt_5 (by decide) ?_
  refine am_istore (L2 := [(4, .int 0), (3, .int (I (6 + e1) 1)), (0, .ref (ad 4)), (1, .ref (ad (6 + e1))), (2, .int a1)]) dD_pageAt_6 (Nat.le_of_ble_eq_true rfl) rfl ?_
  exact am_sub [2, 4, 1, 0] rfl (t_D_pageAt_8 hlt h)
section
variable {l : Launch} {D : va_G} {aC : Nat → ClassId} {ad : Nat → Nat} {own : String} {cc : ByteArray} {nL : Nat} {ret : Option FieldType} {ini : Bool} {tb : List (Nat × Nat × Nat × Nat)} {G : State → (Nat → Prop) → Prop} {rm : Room} {mc ms k n pc idx : Nat} {L : List (Nat × Value)} {st rest : List Value} {I : am_MI} {J : am_MJ} {Q : Option Value → va_W → Prop} {X : String → va_W → Prop}
theorem kV_D_pageAt {e1 : Nat} {a1 : Int32} {K : Int32 → am_MI → am_MJ → Prop} {X1 : String → am_MI → am_MJ → Prop} (he1 : e1 < 8) (hd : decode cc pc = .ok (.invokevirtual idx, 3)) (hlink : Cond.methodLink own idx yD_pageAt ∈ am_TW) (hcat : (rest.map fun v => v.category).sum ≤ 8) (hR : 1 + 1 ≤ rm.frames ∧ 8 + (5 + 11) + 38 * 1 ≤ rm.locals) (hk : k + 1 ≤ rm.cells ∧ n + 6 ≤ rm.slots) (hm : k ≤ mc ∧ n ≤ ms) (hlt : l.stackTraces = false) (h : w_D_pageAt e1 a1 I J K X1) (kk : ∀ (r : Int32) (I1 : am_MI) (J1 : am_MJ), K r I1 J1 → am l D aC own cc nL ret ini [] G rm mc ms k n (pc + 3) L (.int r :: rest) (am_w ad aC I1 J1) Q (am_lx ad aC X1)) : am l D aC own cc nL ret ini [] G rm mc ms k n pc L (.int a1 :: .ref (ad (6 + e1)) :: .ref (ad 4) :: rest) (am_w ad aC I J) Q (am_lx ad aC X1) := by
  refine am_callV 4 2 (As := [.ref (ad (6 + e1)), .int a1]) (N9 := 2) (t_D_pageAt hlt he1 h) hd rfl (am_w_at ad aC I J (by omega)) rfl hlink (am_tw kw_503 rfl) (am_tw kw_502 rfl) ks_37 (am_tw kw_3 rfl) (by decide +kernel) rfl hcat ⟨rfl, rfl⟩ hR hk (fun E ws1 hx => am_out (fun x hx => nomatch hx) (Nat.add_le_add_right hm.1 1) (Nat.add_le_add_right hm.2 6) hx) ?_
  intro v ws1 hq
  obtain ⟨r, I1, J1, rfl, rfl, hq⟩ := hq
  exact kk r I1 J1 hq
end
section
variable {l : Launch} {D : va_G} {aC : Nat → ClassId} {ad : Nat → Nat} {own : String} {cc : ByteArray} {nL : Nat} {ret : Option FieldType} {ini : Bool} {tb : List (Nat × Nat × Nat × Nat)} {G : State → (Nat → Prop) → Prop} {rm : Room} {mc ms k n pc idx : Nat} {L : List (Nat × Value)} {st rest : List Value} {I : am_MI} {J : am_MJ} {Q : Option Value → va_W → Prop} {X : String → va_W → Prop}
theorem kVN_D_pageAt {e1 : Nat} {a1 : Int32} {K : Int32 → am_MI → am_MJ → Prop} (he1 : e1 < 8) (hd : decode cc pc = .ok (.invokevirtual idx, 3)) (hlink : Cond.methodLinkNest own idx yD_pageAt "BubbleBox" ∈ am_TN) (hcat : (rest.map fun v => v.category).sum ≤ 8) (hR : 1 + 1 ≤ rm.frames ∧ 8 + (5 + 11) + 38 * 1 ≤ rm.locals) (hk : k + 1 ≤ rm.cells ∧ n + 6 ≤ rm.slots) (hm : k ≤ mc ∧ n ≤ ms) (hlt : l.stackTraces = false) (h : w_D_pageAt e1 a1 I J K (fun _ _ _ => False)) (kk : ∀ (r : Int32) (I1 : am_MI) (J1 : am_MJ), K r I1 J1 → am l D aC own cc nL ret ini tb G rm mc ms k n (pc + 3) L (.int r :: rest) (am_w ad aC I1 J1) Q X) : am l D aC own cc nL ret ini tb G rm mc ms k n pc L (.int a1 :: .ref (ad (6 + e1)) :: .ref (ad 4) :: rest) (am_w ad aC I J) Q X := by
  refine am_callVN 4 2 (As := [.ref (ad (6 + e1)), .int a1]) (N9 := 2) (am_cF (t_D_pageAt hlt he1 h)) hd rfl (am_w_at ad aC I J (by omega)) rfl hlink (am_tw kw_503 rfl) (am_tw kw_502 rfl) ks_37 (am_tw kw_3 rfl) (by decide +kernel) rfl hcat ⟨rfl, rfl⟩ hR hk ?_
  intro v ws1 hq
  obtain ⟨r, I1, J1, rfl, rfl, hq⟩ := hq
  exact kk r I1 J1 hq
end
def w_D_countFree_5 (x1 : Int32) (x2 : Int32) (I : am_MI) (J : am_MJ) (Q : Int32 → am_MI → am_MJ → Prop) (X : String → am_MI → am_MJ → Prop) : Prop :=
  ∀ P5 : Int32 → Int32 → am_MI → am_MJ → Prop, (∀ (x1 : Int32) (x2 : Int32) (I : am_MI) (J : am_MJ), (((101 : Int32) ≤ x2 → (Q x1 I J)) ∧ (¬ ((101 : Int32) ≤ x2) → (w_D_isFree x2 I J (fun (r4 : Int32) (I2 : am_MI) (J3 : am_MJ) => (r4 = 0 → (P5 x1 (x2 + 1) I2 J3)) ∧ (¬ (r4 = 0) → (P5 (x1 + 1) (x2 + 1) I2 J3))) X))) → P5 x1 x2 I J) → P5 x1 x2 I J
set_option maxRecDepth 20000 in
theorem t_D_countFree_5 {l : Launch} {D : va_G} {aC : Nat → ClassId} {ad : Nat → Nat} (hlt : l.stackTraces = false) {x1 : Int32} {x2 : Int32} {I : am_MI} {J : am_MJ} {Q} {X} (h : w_D_countFree_5 x1 x2 I J Q X) : am l D aC "BubbleBox$Directory" cD_countFree 3 (some .int) false [] am_G0 (am_rm 2) 0 0 0 0 5 [(0, .ref (ad 4)), (1, .int x1), (2, .int x2)] [] (am_w ad aC I J) (am_li ad aC Q) (am_lx ad aC X) := by
  unfold w_D_countFree_5 at h
  refine h (fun (x1 : Int32) (x2 : Int32) (I : am_MI) (J : am_MJ) => am l D aC "BubbleBox$Directory" cD_countFree 3 (some .int) false [] am_G0 (am_rm 2) 0 0 0 0 5 [(0, .ref (ad 4)), (1, .int x1), (2, .int x2)] [] (am_w ad aC I J) (am_li ad aC Q) (am_lx ad aC X)) (fun x1 x2 I J h => ?_)
  refine am_iload_n 2 dD_countFree_5 rfl rfl ?_
  refine am_bipush (v := 101) dD_countFree_6 (by decide) ?_
  refine am_icmp_ge 28 dD_countFree_8 (by decide) (fun hc1 => ?_) (fun hc1 => ?_)
  · replace h := h.1 hc1
    refine am_iload_n 1 dD_countFree_28 rfl rfl ?_
    exact am_iret dD_countFree_29 rfl (Nat.le_of_ble_eq_true rfl) (Nat.le_of_ble_eq_true rfl) ⟨_, _, _, rfl, rfl, h⟩
  · replace h := h.2 hc1
    refine am_aload_n 0 dD_countFree_11 rfl rfl ?_
    refine am_iload_n 2 dD_countFree_12 rfl rfl ?_
    refine kV_D_isFree dD_countFree_13 (am_tw kw_487 rfl) (Nat.le_of_ble_eq_true rfl) ⟨Nat.le_of_ble_eq_true rfl, Nat.le_of_ble_eq_true rfl⟩ ⟨Nat.le_of_ble_eq_true rfl, Nat.le_of_ble_eq_true rfl⟩ ⟨Nat.le_of_ble_eq_true rfl, Nat.le_of_ble_eq_true rfl⟩ hlt h (fun r4 I2 J3 h => ?_)
    refine am_if_eq 22 dD_countFree_16 (by decide) (fun hc5 => ?_) (fun hc5 => ?_)
    · replace h := h.1 hc5
      refine am_iinc (j := 2) (v := x2 + 1) (L2 := [(2, .int (x2 + 1)), (0, .ref (ad 4)), (1, .int x1)]) dD_countFree_22 rfl (congrArg (x2 + ·) (by decide : Int32.ofInt (1) = 1)) (Nat.le_of_ble_eq_true rfl) rfl ?_
      refine am_goto 5 dD_countFree_25 (by decide) ?_
      exact am_sub [1, 2, 0] rfl h
    · replace h := h.2 hc5
      refine am_iinc (j := 1) (v := x1 + 1) (L2 := [(1, .int (x1 + 1)), (0, .ref (ad 4)), (2, .int x2)]) dD_countFree_19 rfl (congrArg (x1 + ·) (by decide : Int32.ofInt (1) = 1)) (Nat.le_of_ble_eq_true rfl) rfl ?_
      refine am_iinc (j := 2) (v := x2 + 1) (L2 := [(2, .int (x2 + 1)), (1, .int (x1 + 1)), (0, .ref (ad 4))]) dD_countFree_22 rfl (congrArg (x2 + ·) (by decide : Int32.ofInt (1) = 1)) (Nat.le_of_ble_eq_true rfl) rfl ?_
      refine am_goto 5 dD_countFree_25 (by decide) ?_
      exact am_sub [2, 1, 0] rfl h

def w_D_countFree (I : am_MI) (J : am_MJ) (Q : Int32 → am_MI → am_MJ → Prop) (X : String → am_MI → am_MJ → Prop) : Prop :=
  w_D_countFree_5 (0 : Int32) (40 : Int32) I J Q X
set_option maxRecDepth 20000 in
theorem t_D_countFree {l : Launch} {D : va_G} {aC : Nat → ClassId} {ad : Nat → Nat} (hlt : l.stackTraces = false) {I : am_MI} {J : am_MJ} {Q} {X} (h : w_D_countFree I J Q X) : am_c l D aC yD_countFree (.code yD_countFree cD_countFree 3 (some .int)) (am_rm 2) 0 0 [.ref (ad 4)] (am_w ad aC I J) (am_li ad aC Q) (am_lx ad aC X) := by
  unfold w_D_countFree at h
  refine am_of (ini := false) hlt (by decide +kernel) (Nat.le_of_ble_eq_true rfl) (fun h => nomatch h) ?_
  show am l D aC "BubbleBox$Directory" cD_countFree 3 (some .int) false [] am_G0 (am_rm 2) 0 0 0 0 0 [(0, .ref (ad 4))] [] (am_w ad aC I J) (am_li ad aC Q) (am_lx ad aC X)
  refine am_iconst (v := 0) dD_countFree_0 (by decide) ?_
  refine am_istore_n (L2 := [(1, .int 0), (0, .ref (ad 4))]) dD_countFree_1 rfl (Nat.le_of_ble_eq_true rfl) rfl ?_
  refine am_bipush (v := 40) dD_countFree_2 (by decide) ?_
  refine am_istore_n (L2 := [(2, .int 40), (1, .int 0), (0, .ref (ad 4))]) dD_countFree_4 rfl (Nat.le_of_ble_eq_true rfl) rfl ?_
  exact am_sub [2, 1, 0] rfl (t_D_countFree_5 hlt h)
section
variable {l : Launch} {D : va_G} {aC : Nat → ClassId} {ad : Nat → Nat} {own : String} {cc : ByteArray} {nL : Nat} {ret : Option FieldType} {ini : Bool} {tb : List (Nat × Nat × Nat × Nat)} {G : State → (Nat → Prop) → Prop} {rm : Room} {mc ms k n pc idx : Nat} {L : List (Nat × Value)} {st rest : List Value} {I : am_MI} {J : am_MJ} {Q : Option Value → va_W → Prop} {X : String → va_W → Prop}
theorem kVN_D_countFree {K : Int32 → am_MI → am_MJ → Prop} (hd : decode cc pc = .ok (.invokevirtual idx, 3)) (hlink : Cond.methodLinkNest own idx yD_countFree "BubbleBox" ∈ am_TN) (hcat : (rest.map fun v => v.category).sum ≤ 8) (hR : 2 + 1 ≤ rm.frames ∧ 8 + (3 + 11) + 38 * 2 ≤ rm.locals) (hk : k + 1 ≤ rm.cells ∧ n + 6 ≤ rm.slots) (hm : k ≤ mc ∧ n ≤ ms) (hlt : l.stackTraces = false) (h : w_D_countFree I J K (fun _ _ _ => False)) (kk : ∀ (r : Int32) (I1 : am_MI) (J1 : am_MJ), K r I1 J1 → am l D aC own cc nL ret ini tb G rm mc ms k n (pc + 3) L (.int r :: rest) (am_w ad aC I1 J1) Q X) : am l D aC own cc nL ret ini tb G rm mc ms k n pc L (.ref (ad 4) :: rest) (am_w ad aC I J) Q X := by
  refine am_callVN 4 2 (As := []) (N9 := 0) (am_cF (t_D_countFree hlt h)) hd rfl (am_w_at ad aC I J (by omega)) rfl hlink (am_tw kw_595 rfl) (am_tw kw_594 rfl) ks_45 (am_tw kw_3 rfl) (by decide +kernel) rfl hcat ⟨rfl, rfl⟩ hR hk ?_
  intro v ws1 hq
  obtain ⟨r, I1, J1, rfl, rfl, hq⟩ := hq
  exact kk r I1 J1 hq
end
def w_D_giveUp_6 (z1 : Nat) (x3 : Int32) (x4 : Int32) (x5 : Int32) (I : am_MI) (J : am_MJ) (Q : am_MI → am_MJ → Prop) (X : String → am_MI → am_MJ → Prop) : Prop :=
  ∀ P6 : Int32 → Int32 → am_MI → am_MJ → Prop, (∀ (x4 : Int32) (x5 : Int32) (I : am_MI) (J : am_MJ), ((x3 ≤ x5 → (Q I J)) ∧ (¬ (x3 ≤ x5) → (vp_in x4 101 ∧ (vp_in x4 101 ∧ (vp_in x4 101 ∧ ((¬ ((am_ui (am_ui I 14 x4.toNatClampNeg (0 : Int32)) 15 x4.toNatClampNeg (vp_nar .boolean (0 : Int32))) (6 + z1) 3) = x4 → (P6 (I 14 x4.toNatClampNeg) (x5 + 1) (am_ui (am_ui I 14 x4.toNatClampNeg (0 : Int32)) 15 x4.toNatClampNeg (vp_nar .boolean (0 : Int32))) J)) ∧ (((am_ui (am_ui I 14 x4.toNatClampNeg (0 : Int32)) 15 x4.toNatClampNeg (vp_nar .boolean (0 : Int32))) (6 + z1) 3) = x4 → (w_E_openWindow z1 (0 : Int32) (0 : Int64) (am_ui (am_ui I 14 x4.toNatClampNeg (0 : Int32)) 15 x4.toNatClampNeg (vp_nar .boolean (0 : Int32))) J (fun (I6 : am_MI) (J7 : am_MJ) => P6 (I 14 x4.toNatClampNeg) (x5 + 1) I6 J7) (fun _ _ _ => False))))))))) → P6 x4 x5 I J) → P6 x4 x5 I J
set_option maxRecDepth 20000 in
theorem t_D_giveUp_6 {l : Launch} {D : va_G} {aC : Nat → ClassId} {ad : Nat → Nat} (hlt : l.stackTraces = false) {z1 : Nat} {x3 : Int32} {x4 : Int32} {x5 : Int32} (hz1 : z1 < 8) {I : am_MI} {J : am_MJ} {Q} {X} (h : w_D_giveUp_6 z1 x3 x4 x5 I J Q X) : am l D aC "BubbleBox$Directory" cD_giveUp 7 none false [] am_G0 (am_rm 2) 0 0 0 0 6 [(0, .ref (ad 4)), (1, .ref (ad (6 + z1))), (3, .int x3), (4, .int x4), (5, .int x5)] [] (am_w ad aC I J) (am_lv ad aC Q) (am_lx ad aC X) := by
  unfold w_D_giveUp_6 at h
  refine h (fun (x4 : Int32) (x5 : Int32) (I : am_MI) (J : am_MJ) => am l D aC "BubbleBox$Directory" cD_giveUp 7 none false [] am_G0 (am_rm 2) 0 0 0 0 6 [(0, .ref (ad 4)), (1, .ref (ad (6 + z1))), (3, .int x3), (4, .int x4), (5, .int x5)] [] (am_w ad aC I J) (am_lv ad aC Q) (am_lx ad aC X)) (fun x4 x5 I J h => ?_)
  refine am_iload 4 dD_giveUp_6 rfl ?_
  refine am_iload_n 2 dD_giveUp_8 rfl rfl ?_
  refine am_icmp_ge 62 dD_giveUp_9 (by decide) (fun hc1 => ?_) (fun hc1 => ?_)
  · replace h := h.1 hc1
    exact am_vret dD_giveUp_62 rfl (Nat.le_of_ble_eq_true rfl) (Nat.le_of_ble_eq_true rfl) ⟨_, _, rfl, rfl, h⟩
  · replace h := h.2 hc1
    refine am_aload_n 0 dD_giveUp_12 rfl rfl ?_
    refine go_D_behind dD_giveUp_13 (am_tw kw_94 rfl) ?_
    refine am_iload 3 dD_giveUp_16 rfl ?_
    obtain ⟨hi2, h⟩ := h
    refine ld_14 hi2 dD_giveUp_18 ?_
    refine am_istore (L2 := [(6, .int (I 14 x4.toNatClampNeg)), (0, .ref (ad 4)), (1, .ref (ad (6 + z1))), (3, .int x3), (4, .int x4), (5, .int x5)]) dD_giveUp_19 (Nat.le_of_ble_eq_true rfl) rfl ?_
    refine am_aload_n 1 dD_giveUp_21 rfl rfl ?_
    refine go_D_behind dD_giveUp_22 (am_tw kw_94 rfl) ?_
    refine am_iload 4 dD_giveUp_25 rfl ?_
    refine am_iconst (v := 0) dD_giveUp_27 (by decide) ?_
    obtain ⟨hi3, h⟩ := h
    refine st_14 hi3 dD_giveUp_28 ?_
    refine am_aload_n 1 dD_giveUp_29 rfl rfl ?_
    refine go_D_owned dD_giveUp_30 (am_tw kw_95 rfl) ?_
    refine am_iload 4 dD_giveUp_33 rfl ?_
    refine am_iconst (v := 0) dD_giveUp_35 (by decide) ?_
    obtain ⟨hi4, h⟩ := h
    refine st_15 hi4 dD_giveUp_36 ?_
    refine am_aload_n 2 dD_giveUp_37 rfl rfl ?_
    refine gn_E_windowPage hz1 dD_giveUp_38 (am_tn kw_73 rfl) ?_
    refine am_iload 4 dD_giveUp_41 rfl ?_
    refine am_icmp_ne 52 dD_giveUp_43 (by decide) (fun hc5 => ?_) (fun hc5 => ?_)
    · replace h := h.1 hc5
      refine am_iload 0 dD_giveUp_52 rfl ?_
      refine am_istore (L2 := [(4, .int (I 14 x4.toNatClampNeg)), (6, .int (I 14 x4.toNatClampNeg)), (0, .ref (ad 4)), (1, .ref (ad (6 + z1))), (3, .int x3), (5, .int x5)]) dD_giveUp_54 (Nat.le_of_ble_eq_true rfl) rfl ?_
      refine am_iinc (j := 5) (v := x5 + 1) (L2 := [(5, .int (x5 + 1)), (4, .int (I 14 x4.toNatClampNeg)), (6, .int (I 14 x4.toNatClampNeg)), (0, .ref (ad 4)), (1, .ref (ad (6 + z1))), (3, .int x3)]) dD_giveUp_56 rfl (congrArg (x5 + ·) (by decide : Int32.ofInt (1) = 1)) (Nat.le_of_ble_eq_true rfl) rfl ?_
      refine am_goto 6 dD_giveUp_59 (by decide) ?_
      exact am_sub [3, 4, 5, 1, 0] rfl h
    · replace h := h.2 hc5
      refine am_aload_n 2 dD_giveUp_46 rfl rfl ?_
      refine am_iconst (v := 0) dD_giveUp_47 (by decide) ?_
      refine am_lconst (v := 0) dD_giveUp_48 (by decide) ?_
      refine kVN_E_openWindow hz1 dD_giveUp_49 (am_tn kw_569 rfl) (Nat.le_of_ble_eq_true rfl) ⟨Nat.le_of_ble_eq_true rfl, Nat.le_of_ble_eq_true rfl⟩ ⟨Nat.le_of_ble_eq_true rfl, Nat.le_of_ble_eq_true rfl⟩ ⟨Nat.le_of_ble_eq_true rfl, Nat.le_of_ble_eq_true rfl⟩ hlt h (fun I6 J7 h => ?_)
      refine am_iload 0 dD_giveUp_52 rfl ?_
      refine am_istore (L2 := [(4, .int (I 14 x4.toNatClampNeg)), (6, .int (I 14 x4.toNatClampNeg)), (0, .ref (ad 4)), (1, .ref (ad (6 + z1))), (3, .int x3), (5, .int x5)]) dD_giveUp_54 (Nat.le_of_ble_eq_true rfl) rfl ?_
      refine am_iinc (j := 5) (v := x5 + 1) (L2 := [(5, .int (x5 + 1)), (4, .int (I 14 x4.toNatClampNeg)), (6, .int (I 14 x4.toNatClampNeg)), (0, .ref (ad 4)), (1, .ref (ad (6 + z1))), (3, .int x3)]) dD_giveUp_56 rfl (congrArg (x5 + ·) (by decide : Int32.ofInt (1) = 1)) (Nat.le_of_ble_eq_true rfl) rfl ?_
      refine am_goto 6 dD_giveUp_59 (by decide) ?_
      exact am_sub [3, 4, 5, 1, 0] rfl h

def w_D_giveUp (e1 : Nat) (a1 : Int32) (a2 : Int32) (I : am_MI) (J : am_MJ) (Q : am_MI → am_MJ → Prop) (X : String → am_MI → am_MJ → Prop) : Prop :=
  w_D_giveUp_6 e1 a2 a1 (0 : Int32) I J Q X
set_option maxRecDepth 20000 in
theorem t_D_giveUp {l : Launch} {D : va_G} {aC : Nat → ClassId} {ad : Nat → Nat} (hlt : l.stackTraces = false) {e1 : Nat} {a1 : Int32} {a2 : Int32} (he1 : e1 < 8) {I : am_MI} {J : am_MJ} {Q} {X} (h : w_D_giveUp e1 a1 a2 I J Q X) : am_c l D aC yD_giveUp (.code yD_giveUp cD_giveUp 7 none) (am_rm 2) 0 0 [.ref (ad 4), .ref (ad (6 + e1)), .int a1, .int a2] (am_w ad aC I J) (am_lv ad aC Q) (am_lx ad aC X) := by
  unfold w_D_giveUp at h
  refine am_of (ini := false) hlt (by decide +kernel) (Nat.le_of_ble_eq_true rfl) (fun h => nomatch h) ?_
  show am l D aC "BubbleBox$Directory" cD_giveUp 7 none false [] am_G0 (am_rm 2) 0 0 0 0 0 [(0, .ref (ad 4)), (1, .ref (ad (6 + e1))), (2, .int a1), (3, .int a2)] [] (am_w ad aC I J) (am_lv ad aC Q) (am_lx ad aC X)
  refine am_iload_n 2 dD_giveUp_0 rfl rfl ?_
  refine am_istore (L2 := [(4, .int a1), (0, .ref (ad 4)), (1, .ref (ad (6 + e1))), (2, .int a1), (3, .int a2)]) dD_giveUp_1 (Nat.le_of_ble_eq_true rfl) rfl ?_
  refine am_iconst (v := 0) dD_giveUp_3 (by decide) ?_
  refine am_istore (L2 := [(5, .int 0), (4, .int a1), (0, .ref (ad 4)), (1, .ref (ad (6 + e1))), (2, .int a1), (3, .int a2)]) dD_giveUp_4 (Nat.le_of_ble_eq_true rfl) rfl ?_
  exact am_sub [2, 3, 5, 1, 0] rfl (t_D_giveUp_6 hlt he1 h)
section
variable {l : Launch} {D : va_G} {aC : Nat → ClassId} {ad : Nat → Nat} {own : String} {cc : ByteArray} {nL : Nat} {ret : Option FieldType} {ini : Bool} {tb : List (Nat × Nat × Nat × Nat)} {G : State → (Nat → Prop) → Prop} {rm : Room} {mc ms k n pc idx : Nat} {L : List (Nat × Value)} {st rest : List Value} {I : am_MI} {J : am_MJ} {Q : Option Value → va_W → Prop} {X : String → va_W → Prop}
theorem kV_D_giveUp {e1 : Nat} {a1 : Int32} {a2 : Int32} {K : am_MI → am_MJ → Prop} {X1 : String → am_MI → am_MJ → Prop} (he1 : e1 < 8) (hd : decode cc pc = .ok (.invokevirtual idx, 3)) (hlink : Cond.methodLink own idx yD_giveUp ∈ am_TW) (hcat : (rest.map fun v => v.category).sum ≤ 8) (hR : 2 + 1 ≤ rm.frames ∧ 8 + (7 + 11) + 38 * 2 ≤ rm.locals) (hk : k + 1 ≤ rm.cells ∧ n + 6 ≤ rm.slots) (hm : k ≤ mc ∧ n ≤ ms) (hlt : l.stackTraces = false) (h : w_D_giveUp e1 a1 a2 I J K X1) (kk : ∀ (I1 : am_MI) (J1 : am_MJ), K I1 J1 → am l D aC own cc nL ret ini [] G rm mc ms k n (pc + 3) L rest (am_w ad aC I1 J1) Q (am_lx ad aC X1)) : am l D aC own cc nL ret ini [] G rm mc ms k n pc L (.int a2 :: .int a1 :: .ref (ad (6 + e1)) :: .ref (ad 4) :: rest) (am_w ad aC I J) Q (am_lx ad aC X1) := by
  refine am_callV 4 2 (As := [.ref (ad (6 + e1)), .int a1, .int a2]) (N9 := 3) (t_D_giveUp hlt he1 h) hd rfl (am_w_at ad aC I J (by omega)) rfl hlink (am_tw kw_568 rfl) (am_tw kw_567 rfl) ks_44 (am_tw kw_3 rfl) (by decide +kernel) rfl hcat ⟨rfl, rfl⟩ hR hk (fun E ws1 hx => am_out (fun x hx => nomatch hx) (Nat.add_le_add_right hm.1 1) (Nat.add_le_add_right hm.2 6) hx) ?_
  intro v ws1 hq
  obtain ⟨I1, J1, rfl, rfl, hq⟩ := hq
  exact kk I1 J1 hq
end
def w_D_leastFree_3 (x1 : Int32) (I : am_MI) (J : am_MJ) (Q : Int32 → am_MI → am_MJ → Prop) (X : String → am_MI → am_MJ → Prop) : Prop :=
  ∀ P3 : Int32 → am_MI → am_MJ → Prop, (∀ (x1 : Int32) (I : am_MI) (J : am_MJ), (((101 : Int32) ≤ x1 → (Q (-1) I J)) ∧ (¬ ((101 : Int32) ≤ x1) → (w_D_isFree x1 I J (fun (r4 : Int32) (I2 : am_MI) (J3 : am_MJ) => (r4 = 0 → (P3 (x1 + 1) I2 J3)) ∧ (¬ (r4 = 0) → (Q x1 I2 J3))) X))) → P3 x1 I J) → P3 x1 I J
set_option maxRecDepth 20000 in
theorem t_D_leastFree_3 {l : Launch} {D : va_G} {aC : Nat → ClassId} {ad : Nat → Nat} (hlt : l.stackTraces = false) {x1 : Int32} {I : am_MI} {J : am_MJ} {Q} {X} (h : w_D_leastFree_3 x1 I J Q X) : am l D aC "BubbleBox$Directory" cD_leastFree 2 (some .int) false [] am_G0 (am_rm 2) 0 0 0 0 3 [(0, .ref (ad 4)), (1, .int x1)] [] (am_w ad aC I J) (am_li ad aC Q) (am_lx ad aC X) := by
  unfold w_D_leastFree_3 at h
  refine h (fun (x1 : Int32) (I : am_MI) (J : am_MJ) => am l D aC "BubbleBox$Directory" cD_leastFree 2 (some .int) false [] am_G0 (am_rm 2) 0 0 0 0 3 [(0, .ref (ad 4)), (1, .int x1)] [] (am_w ad aC I J) (am_li ad aC Q) (am_lx ad aC X)) (fun x1 I J h => ?_)
  refine am_iload_n 1 dD_leastFree_3 rfl rfl ?_
  refine am_bipush (v := 101) dD_leastFree_4 (by decide) ?_
  refine am_icmp_ge 25 dD_leastFree_6 (by decide) (fun hc1 => ?_) (fun hc1 => ?_)
  · replace h := h.1 hc1
    refine am_iconst (v := (-1)) dD_leastFree_25 (by decide) ?_
    exact am_iret dD_leastFree_26 rfl (Nat.le_of_ble_eq_true rfl) (Nat.le_of_ble_eq_true rfl) ⟨_, _, _, rfl, rfl, h⟩
  · replace h := h.2 hc1
    refine am_aload_n 0 dD_leastFree_9 rfl rfl ?_
    refine am_iload_n 1 dD_leastFree_10 rfl rfl ?_
    refine kV_D_isFree dD_leastFree_11 (am_tw kw_487 rfl) (Nat.le_of_ble_eq_true rfl) ⟨Nat.le_of_ble_eq_true rfl, Nat.le_of_ble_eq_true rfl⟩ ⟨Nat.le_of_ble_eq_true rfl, Nat.le_of_ble_eq_true rfl⟩ ⟨Nat.le_of_ble_eq_true rfl, Nat.le_of_ble_eq_true rfl⟩ hlt h (fun r4 I2 J3 h => ?_)
    refine am_if_eq 19 dD_leastFree_14 (by decide) (fun hc5 => ?_) (fun hc5 => ?_)
    · replace h := h.1 hc5
      refine am_iinc (j := 1) (v := x1 + 1) (L2 := [(1, .int (x1 + 1)), (0, .ref (ad 4))]) dD_leastFree_19 rfl (congrArg (x1 + ·) (by decide : Int32.ofInt (1) = 1)) (Nat.le_of_ble_eq_true rfl) rfl ?_
      refine am_goto 3 dD_leastFree_22 (by decide) ?_
      exact am_sub [1, 0] rfl h
    · replace h := h.2 hc5
      refine am_iload_n 1 dD_leastFree_17 rfl rfl ?_
      exact am_iret dD_leastFree_18 rfl (Nat.le_of_ble_eq_true rfl) (Nat.le_of_ble_eq_true rfl) ⟨_, _, _, rfl, rfl, h⟩

def w_D_leastFree (I : am_MI) (J : am_MJ) (Q : Int32 → am_MI → am_MJ → Prop) (X : String → am_MI → am_MJ → Prop) : Prop :=
  w_D_leastFree_3 (40 : Int32) I J Q X
set_option maxRecDepth 20000 in
theorem t_D_leastFree {l : Launch} {D : va_G} {aC : Nat → ClassId} {ad : Nat → Nat} (hlt : l.stackTraces = false) {I : am_MI} {J : am_MJ} {Q} {X} (h : w_D_leastFree I J Q X) : am_c l D aC yD_leastFree (.code yD_leastFree cD_leastFree 2 (some .int)) (am_rm 2) 0 0 [.ref (ad 4)] (am_w ad aC I J) (am_li ad aC Q) (am_lx ad aC X) := by
  unfold w_D_leastFree at h
  refine am_of (ini := false) hlt (by decide +kernel) (Nat.le_of_ble_eq_true rfl) (fun h => nomatch h) ?_
  show am l D aC "BubbleBox$Directory" cD_leastFree 2 (some .int) false [] am_G0 (am_rm 2) 0 0 0 0 0 [(0, .ref (ad 4))] [] (am_w ad aC I J) (am_li ad aC Q) (am_lx ad aC X)
  refine am_bipush (v := 40) dD_leastFree_0 (by decide) ?_
  refine am_istore_n (L2 := [(1, .int 40), (0, .ref (ad 4))]) dD_leastFree_2 rfl (Nat.le_of_ble_eq_true rfl) rfl ?_
  exact am_sub [1, 0] rfl (t_D_leastFree_3 hlt h)
section
variable {l : Launch} {D : va_G} {aC : Nat → ClassId} {ad : Nat → Nat} {own : String} {cc : ByteArray} {nL : Nat} {ret : Option FieldType} {ini : Bool} {tb : List (Nat × Nat × Nat × Nat)} {G : State → (Nat → Prop) → Prop} {rm : Room} {mc ms k n pc idx : Nat} {L : List (Nat × Value)} {st rest : List Value} {I : am_MI} {J : am_MJ} {Q : Option Value → va_W → Prop} {X : String → va_W → Prop}
theorem kVN_D_leastFree {K : Int32 → am_MI → am_MJ → Prop} (hd : decode cc pc = .ok (.invokevirtual idx, 3)) (hlink : Cond.methodLinkNest own idx yD_leastFree "BubbleBox" ∈ am_TN) (hcat : (rest.map fun v => v.category).sum ≤ 8) (hR : 2 + 1 ≤ rm.frames ∧ 8 + (2 + 11) + 38 * 2 ≤ rm.locals) (hk : k + 1 ≤ rm.cells ∧ n + 6 ≤ rm.slots) (hm : k ≤ mc ∧ n ≤ ms) (hlt : l.stackTraces = false) (h : w_D_leastFree I J K (fun _ _ _ => False)) (kk : ∀ (r : Int32) (I1 : am_MI) (J1 : am_MJ), K r I1 J1 → am l D aC own cc nL ret ini tb G rm mc ms k n (pc + 3) L (.int r :: rest) (am_w ad aC I1 J1) Q X) : am l D aC own cc nL ret ini tb G rm mc ms k n pc L (.ref (ad 4) :: rest) (am_w ad aC I J) Q X := by
  refine am_callVN 4 2 (As := []) (N9 := 0) (am_cF (t_D_leastFree hlt h)) hd rfl (am_w_at ad aC I J (by omega)) rfl hlink (am_tw kw_486 rfl) (am_tw kw_485 rfl) ks_33 (am_tw kw_3 rfl) (by decide +kernel) rfl hcat ⟨rfl, rfl⟩ hR hk ?_
  intro v ws1 hq
  obtain ⟨r, I1, J1, rfl, rfl, hq⟩ := hq
  exact kk r I1 J1 hq
end
def w_D_ownChain_16 (x3 : Int32) (x2 : Int32) (x4 : Int32) (I : am_MI) (J : am_MJ) (Q : am_MI → am_MJ → Prop) (X : String → am_MI → am_MJ → Prop) : Prop :=
  ∀ P16 : Int32 → Int32 → am_MI → am_MJ → Prop, (∀ (x2 : Int32) (x4 : Int32) (I : am_MI) (J : am_MJ), ((x3 ≤ x4 → (Q I J)) ∧ (¬ (x3 ≤ x4) → (vp_in x2 101 ∧ (vp_in x2 101 ∧ (P16 ((am_ui I 15 x2.toNatClampNeg (vp_nar .boolean (1 : Int32))) 14 x2.toNatClampNeg) (x4 + 1) (am_ui I 15 x2.toNatClampNeg (vp_nar .boolean (1 : Int32))) J))))) → P16 x2 x4 I J) → P16 x2 x4 I J
set_option maxRecDepth 20000 in
theorem t_D_ownChain_16 {l : Launch} {D : va_G} {aC : Nat → ClassId} {ad : Nat → Nat} (hlt : l.stackTraces = false) {x3 : Int32} {x2 : Int32} {x4 : Int32} {I : am_MI} {J : am_MJ} {Q} {X} (h : w_D_ownChain_16 x3 x2 x4 I J Q X) : am l D aC "BubbleBox$Directory" cD_ownChain 5 none false [] am_G0 (am_rm 2) 0 0 0 0 16 [(0, .ref (ad 4)), (2, .int x2), (3, .int x3), (4, .int x4)] [] (am_w ad aC I J) (am_lv ad aC Q) (am_lx ad aC X) := by
  unfold w_D_ownChain_16 at h
  refine h (fun (x2 : Int32) (x4 : Int32) (I : am_MI) (J : am_MJ) => am l D aC "BubbleBox$Directory" cD_ownChain 5 none false [] am_G0 (am_rm 2) 0 0 0 0 16 [(0, .ref (ad 4)), (2, .int x2), (3, .int x3), (4, .int x4)] [] (am_w ad aC I J) (am_lv ad aC Q) (am_lx ad aC X)) (fun x2 x4 I J h => ?_)
  refine am_iload 3 dD_ownChain_16 rfl ?_
  refine am_iload_n 2 dD_ownChain_18 rfl rfl ?_
  refine am_icmp_ge 42 dD_ownChain_19 (by decide) (fun hc4 => ?_) (fun hc4 => ?_)
  · replace h := h.1 hc4
    exact am_vret dD_ownChain_42 rfl (Nat.le_of_ble_eq_true rfl) (Nat.le_of_ble_eq_true rfl) ⟨_, _, rfl, rfl, h⟩
  · replace h := h.2 hc4
    refine am_aload_n 0 dD_ownChain_22 rfl rfl ?_
    refine go_D_owned dD_ownChain_23 (am_tw kw_95 rfl) ?_
    refine am_iload_n 1 dD_ownChain_26 rfl rfl ?_
    refine am_iconst (v := 1) dD_ownChain_27 (by decide) ?_
    obtain ⟨hi5, h⟩ := h
    refine st_15 hi5 dD_ownChain_28 ?_
    refine am_aload_n 0 dD_ownChain_29 rfl rfl ?_
    refine go_D_behind dD_ownChain_30 (am_tw kw_94 rfl) ?_
    refine am_iload_n 1 dD_ownChain_33 rfl rfl ?_
    obtain ⟨hi6, h⟩ := h
    refine ld_14 hi6 dD_ownChain_34 ?_
    refine am_istore_n (L2 := [(2, .int ((am_ui I 15 x2.toNatClampNeg (vp_nar .boolean (1 : Int32))) 14 x2.toNatClampNeg)), (0, .ref (ad 4)), (3, .int x3), (4, .int x4)]) dD_ownChain_35 rfl (Nat.le_of_ble_eq_true rfl) rfl ?_
    refine am_iinc (j := 3) (v := x4 + 1) (L2 := [(4, .int (x4 + 1)), (2, .int ((am_ui I 15 x2.toNatClampNeg (vp_nar .boolean (1 : Int32))) 14 x2.toNatClampNeg)), (0, .ref (ad 4)), (3, .int x3)]) dD_ownChain_36 rfl (congrArg (x4 + ·) (by decide : Int32.ofInt (1) = 1)) (Nat.le_of_ble_eq_true rfl) rfl ?_
    refine am_goto 16 dD_ownChain_39 (by decide) ?_
    exact am_sub [2, 1, 3, 0] rfl h

def w_D_ownChain (e1 : Nat) (I : am_MI) (J : am_MJ) (Q : am_MI → am_MJ → Prop) (X : String → am_MI → am_MJ → Prop) : Prop :=
  w_B_pagesFor (I (6 + e1) 2) I J (fun (r3 : Int32) (I1 : am_MI) (J2 : am_MJ) => w_D_ownChain_16 r3 (I (6 + e1) 1) (0 : Int32) I1 J2 Q X) (fun _ _ _ => False)
set_option maxRecDepth 20000 in
theorem t_D_ownChain {l : Launch} {D : va_G} {aC : Nat → ClassId} {ad : Nat → Nat} (hlt : l.stackTraces = false) {e1 : Nat} (he1 : e1 < 8) {I : am_MI} {J : am_MJ} {Q} {X} (h : w_D_ownChain e1 I J Q X) : am_c l D aC yD_ownChain (.code yD_ownChain cD_ownChain 5 none) (am_rm 2) 0 0 [.ref (ad 4), .ref (ad (6 + e1))] (am_w ad aC I J) (am_lv ad aC Q) (am_lx ad aC X) := by
  unfold w_D_ownChain at h
  refine am_of (ini := false) hlt (by decide +kernel) (Nat.le_of_ble_eq_true rfl) (fun h => nomatch h) ?_
  show am l D aC "BubbleBox$Directory" cD_ownChain 5 none false [] am_G0 (am_rm 2) 0 0 0 0 0 [(0, .ref (ad 4)), (1, .ref (ad (6 + e1)))] [] (am_w ad aC I J) (am_lv ad aC Q) (am_lx ad aC X)
  refine am_aload_n 1 dD_ownChain_0 rfl rfl ?_
  refine gn_E_firstPage he1 dD_ownChain_1 (am_tn kw_68 rfl) ?_
  refine am_istore_n (L2 := [(2, .int (I (6 + e1) 1)), (0, .ref (ad 4)), (1, .ref (ad (6 + e1)))]) dD_ownChain_4 rfl (Nat.le_of_ble_eq_true rfl) rfl ?_
  refine am_aload_n 2 dD_ownChain_5 rfl rfl ?_
  refine gn_E_bytes he1 dD_ownChain_6 (am_tn kw_70 rfl) ?_
  refine kSN_B_pagesFor dD_ownChain_9 (am_tn kw_334 rfl) (Nat.le_of_ble_eq_true rfl) ⟨Nat.le_of_ble_eq_true rfl, Nat.le_of_ble_eq_true rfl⟩ ⟨Nat.le_of_ble_eq_true rfl, Nat.le_of_ble_eq_true rfl⟩ ⟨Nat.le_of_ble_eq_true rfl, Nat.le_of_ble_eq_true rfl⟩ hlt h (fun r3 I1 J2 h => ?_)
  refine am_istore_n (L2 := [(3, .int r3), (2, .int (I (6 + e1) 1)), (0, .ref (ad 4)), (1, .ref (ad (6 + e1)))]) dD_ownChain_12 rfl (Nat.le_of_ble_eq_true rfl) rfl ?_
  refine am_iconst (v := 0) dD_ownChain_13 (by decide) ?_
  refine am_istore (L2 := [(4, .int 0), (3, .int r3), (2, .int (I (6 + e1) 1)), (0, .ref (ad 4)), (1, .ref (ad (6 + e1)))]) dD_ownChain_14 (Nat.le_of_ble_eq_true rfl) rfl ?_
  exact am_sub [3, 2, 1, 0] rfl (t_D_ownChain_16 hlt h)
section
variable {l : Launch} {D : va_G} {aC : Nat → ClassId} {ad : Nat → Nat} {own : String} {cc : ByteArray} {nL : Nat} {ret : Option FieldType} {ini : Bool} {tb : List (Nat × Nat × Nat × Nat)} {G : State → (Nat → Prop) → Prop} {rm : Room} {mc ms k n pc idx : Nat} {L : List (Nat × Value)} {st rest : List Value} {I : am_MI} {J : am_MJ} {Q : Option Value → va_W → Prop} {X : String → va_W → Prop}
theorem kV_D_ownChain {e1 : Nat} {K : am_MI → am_MJ → Prop} {X1 : String → am_MI → am_MJ → Prop} (he1 : e1 < 8) (hd : decode cc pc = .ok (.invokevirtual idx, 3)) (hlink : Cond.methodLink own idx yD_ownChain ∈ am_TW) (hcat : (rest.map fun v => v.category).sum ≤ 8) (hR : 2 + 1 ≤ rm.frames ∧ 8 + (5 + 11) + 38 * 2 ≤ rm.locals) (hk : k + 1 ≤ rm.cells ∧ n + 6 ≤ rm.slots) (hm : k ≤ mc ∧ n ≤ ms) (hlt : l.stackTraces = false) (h : w_D_ownChain e1 I J K X1) (kk : ∀ (I1 : am_MI) (J1 : am_MJ), K I1 J1 → am l D aC own cc nL ret ini [] G rm mc ms k n (pc + 3) L rest (am_w ad aC I1 J1) Q (am_lx ad aC X1)) : am l D aC own cc nL ret ini [] G rm mc ms k n pc L (.ref (ad (6 + e1)) :: .ref (ad 4) :: rest) (am_w ad aC I J) Q (am_lx ad aC X1) := by
  refine am_callV 4 2 (As := [.ref (ad (6 + e1))]) (N9 := 1) (t_D_ownChain hlt he1 h) hd rfl (am_w_at ad aC I J (by omega)) rfl hlink (am_tw kw_333 rfl) (am_tw kw_332 rfl) ks_17 (am_tw kw_3 rfl) (by decide +kernel) rfl hcat ⟨rfl, rfl⟩ hR hk (fun E ws1 hx => am_out (fun x hx => nomatch hx) (Nat.add_le_add_right hm.1 1) (Nat.add_le_add_right hm.2 6) hx) ?_
  intro v ws1 hq
  obtain ⟨I1, J1, rfl, rfl, hq⟩ := hq
  exact kk I1 J1 hq
end

def w_D_putPageAt (e1 : Nat) (a1 : Int32) (a2 : Int32) (I : am_MI) (J : am_MJ) (Q : am_MI → am_MJ → Prop) (X : String → am_MI → am_MJ → Prop) : Prop :=
  (¬ a1 = 0 → (w_D_pageAt e1 (a1 - (1 : Int32)) I J (fun (r4 : Int32) (I2 : am_MI) (J3 : am_MJ) => vp_in r4 101 ∧ (Q (am_ui I2 14 r4.toNatClampNeg a2) J3)) X)) ∧ (a1 = 0 → (Q (am_ui I (6 + e1) 1 a2) J))
set_option maxRecDepth 20000 in
theorem t_D_putPageAt {l : Launch} {D : va_G} {aC : Nat → ClassId} {ad : Nat → Nat} (hlt : l.stackTraces = false) {e1 : Nat} {a1 : Int32} {a2 : Int32} (he1 : e1 < 8) {I : am_MI} {J : am_MJ} {Q} {X} (h : w_D_putPageAt e1 a1 a2 I J Q X) : am_c l D aC yD_putPageAt (.code yD_putPageAt cD_putPageAt 4 none) (am_rm 2) 0 0 [.ref (ad 4), .ref (ad (6 + e1)), .int a1, .int a2] (am_w ad aC I J) (am_lv ad aC Q) (am_lx ad aC X) := by
  unfold w_D_putPageAt at h
  refine am_of (ini := false) hlt (by decide +kernel) (Nat.le_of_ble_eq_true rfl) (fun h => nomatch h) ?_
  show am l D aC "BubbleBox$Directory" cD_putPageAt 4 none false [] am_G0 (am_rm 2) 0 0 0 0 0 [(0, .ref (ad 4)), (1, .ref (ad (6 + e1))), (2, .int a1), (3, .int a2)] [] (am_w ad aC I J) (am_lv ad aC Q) (am_lx ad aC X)
  refine am_iload_n 2 dD_putPageAt_0 rfl rfl ?_
  refine am_if_ne 12 dD_putPageAt_1 (by decide) (fun hc1 => ?_) (fun hc1 => ?_)
  · replace h := h.1 hc1
    refine am_aload_n 0 dD_putPageAt_12 rfl rfl ?_
    refine go_D_behind dD_putPageAt_13 (am_tw kw_94 rfl) ?_
    refine am_aload_n 0 dD_putPageAt_16 rfl rfl ?_
    refine am_aload_n 1 dD_putPageAt_17 rfl rfl ?_
    refine am_iload_n 2 dD_putPageAt_18 rfl rfl ?_
    refine am_iconst (v := 1) dD_putPageAt_19 (by decide) ?_
    refine am_isub dD_putPageAt_20 ?_
    refine kV_D_pageAt he1 dD_putPageAt_21 (am_tw kw_500 rfl) (Nat.le_of_ble_eq_true rfl) ⟨Nat.le_of_ble_eq_true rfl, Nat.le_of_ble_eq_true rfl⟩ ⟨Nat.le_of_ble_eq_true rfl, Nat.le_of_ble_eq_true rfl⟩ ⟨Nat.le_of_ble_eq_true rfl, Nat.le_of_ble_eq_true rfl⟩ hlt h (fun r4 I2 J3 h => ?_)
    refine am_iload_n 3 dD_putPageAt_24 rfl rfl ?_
    obtain ⟨hi5, h⟩ := h
    refine st_14 hi5 dD_putPageAt_25 ?_
    exact am_vret dD_putPageAt_26 rfl (Nat.le_of_ble_eq_true rfl) (Nat.le_of_ble_eq_true rfl) ⟨_, _, rfl, rfl, h⟩
  · replace h := h.2 hc1
    refine am_aload_n 1 dD_putPageAt_4 rfl rfl ?_
    refine am_iload_n 3 dD_putPageAt_5 rfl rfl ?_
    refine pn_E_firstPage he1 dD_putPageAt_6 (am_tn kw_68 rfl) ?_
    refine am_goto 26 dD_putPageAt_9 (by decide) ?_
    exact am_vret dD_putPageAt_26 rfl (Nat.le_of_ble_eq_true rfl) (Nat.le_of_ble_eq_true rfl) ⟨_, _, rfl, rfl, h⟩
section
variable {l : Launch} {D : va_G} {aC : Nat → ClassId} {ad : Nat → Nat} {own : String} {cc : ByteArray} {nL : Nat} {ret : Option FieldType} {ini : Bool} {tb : List (Nat × Nat × Nat × Nat)} {G : State → (Nat → Prop) → Prop} {rm : Room} {mc ms k n pc idx : Nat} {L : List (Nat × Value)} {st rest : List Value} {I : am_MI} {J : am_MJ} {Q : Option Value → va_W → Prop} {X : String → va_W → Prop}
theorem kV_D_putPageAt {e1 : Nat} {a1 : Int32} {a2 : Int32} {K : am_MI → am_MJ → Prop} {X1 : String → am_MI → am_MJ → Prop} (he1 : e1 < 8) (hd : decode cc pc = .ok (.invokevirtual idx, 3)) (hlink : Cond.methodLink own idx yD_putPageAt ∈ am_TW) (hcat : (rest.map fun v => v.category).sum ≤ 8) (hR : 2 + 1 ≤ rm.frames ∧ 8 + (4 + 11) + 38 * 2 ≤ rm.locals) (hk : k + 1 ≤ rm.cells ∧ n + 6 ≤ rm.slots) (hm : k ≤ mc ∧ n ≤ ms) (hlt : l.stackTraces = false) (h : w_D_putPageAt e1 a1 a2 I J K X1) (kk : ∀ (I1 : am_MI) (J1 : am_MJ), K I1 J1 → am l D aC own cc nL ret ini [] G rm mc ms k n (pc + 3) L rest (am_w ad aC I1 J1) Q (am_lx ad aC X1)) : am l D aC own cc nL ret ini [] G rm mc ms k n pc L (.int a2 :: .int a1 :: .ref (ad (6 + e1)) :: .ref (ad 4) :: rest) (am_w ad aC I J) Q (am_lx ad aC X1) := by
  refine am_callV 4 2 (As := [.ref (ad (6 + e1)), .int a1, .int a2]) (N9 := 3) (t_D_putPageAt hlt he1 h) hd rfl (am_w_at ad aC I J (by omega)) rfl hlink (am_tw kw_499 rfl) (am_tw kw_498 rfl) ks_36 (am_tw kw_3 rfl) (by decide +kernel) rfl hcat ⟨rfl, rfl⟩ hR hk (fun E ws1 hx => am_out (fun x hx => nomatch hx) (Nat.add_le_add_right hm.1 1) (Nat.add_le_add_right hm.2 6) hx) ?_
  intro v ws1 hq
  obtain ⟨I1, J1, rfl, rfl, hq⟩ := hq
  exact kk I1 J1 hq
end

def w_D_addPage (e1 : Nat) (a1 : Int32) (I : am_MI) (J : am_MJ) (Q : am_MI → am_MJ → Prop) (X : String → am_MI → am_MJ → Prop) : Prop :=
  w_B_pagesFor (I (6 + e1) 2) I J (fun (r3 : Int32) (I1 : am_MI) (J2 : am_MJ) => w_D_putPageAt e1 r3 a1 I1 J2 (fun (I4 : am_MI) (J5 : am_MJ) => vp_in a1 101 ∧ (Q (am_ui I4 15 a1.toNatClampNeg (vp_nar .boolean (1 : Int32))) J5)) X) (fun _ _ _ => False)
set_option maxRecDepth 20000 in
theorem t_D_addPage {l : Launch} {D : va_G} {aC : Nat → ClassId} {ad : Nat → Nat} (hlt : l.stackTraces = false) {e1 : Nat} {a1 : Int32} (he1 : e1 < 8) {I : am_MI} {J : am_MJ} {Q} {X} (h : w_D_addPage e1 a1 I J Q X) : am_c l D aC yD_addPage (.code yD_addPage cD_addPage 3 none) (am_rm 3) 0 0 [.ref (ad 4), .ref (ad (6 + e1)), .int a1] (am_w ad aC I J) (am_lv ad aC Q) (am_lx ad aC X) := by
  unfold w_D_addPage at h
  refine am_of (ini := false) hlt (by decide +kernel) (Nat.le_of_ble_eq_true rfl) (fun h => nomatch h) ?_
  show am l D aC "BubbleBox$Directory" cD_addPage 3 none false [] am_G0 (am_rm 3) 0 0 0 0 0 [(0, .ref (ad 4)), (1, .ref (ad (6 + e1))), (2, .int a1)] [] (am_w ad aC I J) (am_lv ad aC Q) (am_lx ad aC X)
  refine am_aload_n 0 dD_addPage_0 rfl rfl ?_
  refine am_aload_n 1 dD_addPage_1 rfl rfl ?_
  refine am_aload_n 1 dD_addPage_2 rfl rfl ?_
  refine gn_E_bytes he1 dD_addPage_3 (am_tn kw_70 rfl) ?_
  refine kSN_B_pagesFor dD_addPage_6 (am_tn kw_334 rfl) (Nat.le_of_ble_eq_true rfl) ⟨Nat.le_of_ble_eq_true rfl, Nat.le_of_ble_eq_true rfl⟩ ⟨Nat.le_of_ble_eq_true rfl, Nat.le_of_ble_eq_true rfl⟩ ⟨Nat.le_of_ble_eq_true rfl, Nat.le_of_ble_eq_true rfl⟩ hlt h (fun r3 I1 J2 h => ?_)
  refine am_iload_n 2 dD_addPage_9 rfl rfl ?_
  refine kV_D_putPageAt he1 dD_addPage_10 (am_tw kw_496 rfl) (Nat.le_of_ble_eq_true rfl) ⟨Nat.le_of_ble_eq_true rfl, Nat.le_of_ble_eq_true rfl⟩ ⟨Nat.le_of_ble_eq_true rfl, Nat.le_of_ble_eq_true rfl⟩ ⟨Nat.le_of_ble_eq_true rfl, Nat.le_of_ble_eq_true rfl⟩ hlt h (fun I4 J5 h => ?_)
  refine am_aload_n 0 dD_addPage_13 rfl rfl ?_
  refine go_D_owned dD_addPage_14 (am_tw kw_95 rfl) ?_
  refine am_iload_n 2 dD_addPage_17 rfl rfl ?_
  refine am_iconst (v := 1) dD_addPage_18 (by decide) ?_
  obtain ⟨hi7, h⟩ := h
  refine st_15 hi7 dD_addPage_19 ?_
  exact am_vret dD_addPage_20 rfl (Nat.le_of_ble_eq_true rfl) (Nat.le_of_ble_eq_true rfl) ⟨_, _, rfl, rfl, h⟩
section
variable {l : Launch} {D : va_G} {aC : Nat → ClassId} {ad : Nat → Nat} {own : String} {cc : ByteArray} {nL : Nat} {ret : Option FieldType} {ini : Bool} {tb : List (Nat × Nat × Nat × Nat)} {G : State → (Nat → Prop) → Prop} {rm : Room} {mc ms k n pc idx : Nat} {L : List (Nat × Value)} {st rest : List Value} {I : am_MI} {J : am_MJ} {Q : Option Value → va_W → Prop} {X : String → va_W → Prop}
theorem kVN_D_addPage {e1 : Nat} {a1 : Int32} {K : am_MI → am_MJ → Prop} (he1 : e1 < 8) (hd : decode cc pc = .ok (.invokevirtual idx, 3)) (hlink : Cond.methodLinkNest own idx yD_addPage "BubbleBox" ∈ am_TN) (hcat : (rest.map fun v => v.category).sum ≤ 8) (hR : 3 + 1 ≤ rm.frames ∧ 8 + (3 + 11) + 38 * 3 ≤ rm.locals) (hk : k + 1 ≤ rm.cells ∧ n + 6 ≤ rm.slots) (hm : k ≤ mc ∧ n ≤ ms) (hlt : l.stackTraces = false) (h : w_D_addPage e1 a1 I J K (fun _ _ _ => False)) (kk : ∀ (I1 : am_MI) (J1 : am_MJ), K I1 J1 → am l D aC own cc nL ret ini tb G rm mc ms k n (pc + 3) L rest (am_w ad aC I1 J1) Q X) : am l D aC own cc nL ret ini tb G rm mc ms k n pc L (.int a1 :: .ref (ad (6 + e1)) :: .ref (ad 4) :: rest) (am_w ad aC I J) Q X := by
  refine am_callVN 4 2 (As := [.ref (ad (6 + e1)), .int a1]) (N9 := 2) (am_cF (t_D_addPage hlt he1 h)) hd rfl (am_w_at ad aC I J (by omega)) rfl hlink (am_tw kw_495 rfl) (am_tw kw_494 rfl) ks_35 (am_tw kw_3 rfl) (by decide +kernel) rfl hcat ⟨rfl, rfl⟩ hR hk ?_
  intro v ws1 hq
  obtain ⟨I1, J1, rfl, rfl, hq⟩ := hq
  exact kk I1 J1 hq
end
def w_D_forget_25 (x1 : Int32) (I : am_MI) (J : am_MJ) (Q : am_MI → am_MJ → Prop) (X : String → am_MI → am_MJ → Prop) (P2 : Int32 → am_MI → am_MJ → Prop) : Prop :=
  ∀ P25 : Int32 → am_MI → am_MJ → Prop, (∀ (x1 : Int32) (I : am_MI) (J : am_MJ), (((101 : Int32) ≤ x1 → (Q I J)) ∧ (¬ ((101 : Int32) ≤ x1) → (vp_in x1 101 ∧ (vp_in x1 101 ∧ (vp_in x1 101 ∧ (P25 (x1 + 1) (am_ui (am_ui (am_ui I 14 x1.toNatClampNeg (0 : Int32)) 15 x1.toNatClampNeg (vp_nar .boolean (0 : Int32))) 16 x1.toNatClampNeg (vp_nar .boolean (0 : Int32))) J)))))) → P25 x1 I J) → P25 x1 I J
set_option maxRecDepth 20000 in
theorem t_D_forget_25 {l : Launch} {D : va_G} {aC : Nat → ClassId} {ad : Nat → Nat} (hlt : l.stackTraces = false) {x1 : Int32} {I : am_MI} {J : am_MJ} {Q} {X} {P2 : Int32 → am_MI → am_MJ → Prop} (uP2 : ∀ (x1 : Int32) (I : am_MI) (J : am_MJ), P2 x1 I J → am l D aC "BubbleBox$Directory" cD_forget 2 none false [] am_G0 (am_rm 3) 0 0 0 0 2 [(0, .ref (ad 4)), (1, .int x1)] [] (am_w ad aC I J) (am_lv ad aC Q) (am_lx ad aC X)) (h : w_D_forget_25 x1 I J Q X P2) : am l D aC "BubbleBox$Directory" cD_forget 2 none false [] am_G0 (am_rm 3) 0 0 0 0 25 [(0, .ref (ad 4)), (1, .int x1)] [] (am_w ad aC I J) (am_lv ad aC Q) (am_lx ad aC X) := by
  unfold w_D_forget_25 at h
  refine h (fun (x1 : Int32) (I : am_MI) (J : am_MJ) => am l D aC "BubbleBox$Directory" cD_forget 2 none false [] am_G0 (am_rm 3) 0 0 0 0 25 [(0, .ref (ad 4)), (1, .int x1)] [] (am_w ad aC I J) (am_lv ad aC Q) (am_lx ad aC X)) (fun x1 I J h => ?_)
  refine am_iload_n 1 dD_forget_25 rfl rfl ?_
  refine am_bipush (v := 101) dD_forget_26 (by decide) ?_
  refine am_icmp_ge 58 dD_forget_28 (by decide) (fun hc2 => ?_) (fun hc2 => ?_)
  · replace h := h.1 hc2
    exact am_vret dD_forget_58 rfl (Nat.le_of_ble_eq_true rfl) (Nat.le_of_ble_eq_true rfl) ⟨_, _, rfl, rfl, h⟩
  · replace h := h.2 hc2
    refine am_aload_n 0 dD_forget_31 rfl rfl ?_
    refine go_D_behind dD_forget_32 (am_tw kw_94 rfl) ?_
    refine am_iload_n 1 dD_forget_35 rfl rfl ?_
    refine am_iconst (v := 0) dD_forget_36 (by decide) ?_
    obtain ⟨hi3, h⟩ := h
    refine st_14 hi3 dD_forget_37 ?_
    refine am_aload_n 0 dD_forget_38 rfl rfl ?_
    refine go_D_owned dD_forget_39 (am_tw kw_95 rfl) ?_
    refine am_iload_n 1 dD_forget_42 rfl rfl ?_
    refine am_iconst (v := 0) dD_forget_43 (by decide) ?_
    obtain ⟨hi4, h⟩ := h
    refine st_15 hi4 dD_forget_44 ?_
    refine am_aload_n 0 dD_forget_45 rfl rfl ?_
    refine go_D_held dD_forget_46 (am_tw kw_96 rfl) ?_
    refine am_iload_n 1 dD_forget_49 rfl rfl ?_
    refine am_iconst (v := 0) dD_forget_50 (by decide) ?_
    obtain ⟨hi5, h⟩ := h
    refine st_16 hi5 dD_forget_51 ?_
    refine am_iinc (j := 1) (v := x1 + 1) (L2 := [(1, .int (x1 + 1)), (0, .ref (ad 4))]) dD_forget_52 rfl (congrArg (x1 + ·) (by decide : Int32.ofInt (1) = 1)) (Nat.le_of_ble_eq_true rfl) rfl ?_
    refine am_goto 25 dD_forget_55 (by decide) ?_
    exact am_sub [1, 0] rfl h

def w_D_forget_2 (x1 : Int32) (I : am_MI) (J : am_MJ) (Q : am_MI → am_MJ → Prop) (X : String → am_MI → am_MJ → Prop) : Prop :=
  ∀ P2 : Int32 → am_MI → am_MJ → Prop, (∀ (x1 : Int32) (I : am_MI) (J : am_MJ), (((8 : Int32) ≤ x1 → (w_D_forget_25 (0 : Int32) I J Q X P2)) ∧ (¬ ((8 : Int32) ≤ x1) → (vp_in x1 8 ∧ (w_E_forget x1.toNatClampNeg I J (fun (I7 : am_MI) (J8 : am_MJ) => P2 (x1 + 1) I7 J8) (fun _ _ _ => False))))) → P2 x1 I J) → P2 x1 I J
set_option maxRecDepth 20000 in
theorem t_D_forget_2 {l : Launch} {D : va_G} {aC : Nat → ClassId} {ad : Nat → Nat} (hlt : l.stackTraces = false) {x1 : Int32} {I : am_MI} {J : am_MJ} {Q} {X} (h : w_D_forget_2 x1 I J Q X) : am l D aC "BubbleBox$Directory" cD_forget 2 none false [] am_G0 (am_rm 3) 0 0 0 0 2 [(0, .ref (ad 4)), (1, .int x1)] [] (am_w ad aC I J) (am_lv ad aC Q) (am_lx ad aC X) := by
  unfold w_D_forget_2 at h
  refine h (fun (x1 : Int32) (I : am_MI) (J : am_MJ) => am l D aC "BubbleBox$Directory" cD_forget 2 none false [] am_G0 (am_rm 3) 0 0 0 0 2 [(0, .ref (ad 4)), (1, .int x1)] [] (am_w ad aC I J) (am_lv ad aC Q) (am_lx ad aC X)) (fun x1 I J h => ?_)
  refine am_iload_n 1 dD_forget_2 rfl rfl ?_
  refine am_bipush (v := 8) dD_forget_3 (by decide) ?_
  refine am_icmp_ge 23 dD_forget_5 (by decide) (fun hc1 => ?_) (fun hc1 => ?_)
  · replace h := h.1 hc1
    refine am_iconst (v := 0) dD_forget_23 (by decide) ?_
    refine am_istore_n (L2 := [(1, .int 0), (0, .ref (ad 4))]) dD_forget_24 rfl (Nat.le_of_ble_eq_true rfl) rfl ?_
    exact am_sub [1, 0] rfl (t_D_forget_25 hlt (fun _ _ _ h => h) h)
  · replace h := h.2 hc1
    refine am_aload_n 0 dD_forget_8 rfl rfl ?_
    refine go_D_entries dD_forget_9 (am_tw kw_92 rfl) ?_
    refine am_iload_n 1 dD_forget_12 rfl rfl ?_
    obtain ⟨hi6, h⟩ := h
    refine al_5 hi6 dD_forget_13 ?_
    refine kVN_E_forget (am_lt hi6) dD_forget_14 (am_tn kw_203 rfl) (Nat.le_of_ble_eq_true rfl) ⟨Nat.le_of_ble_eq_true rfl, Nat.le_of_ble_eq_true rfl⟩ ⟨Nat.le_of_ble_eq_true rfl, Nat.le_of_ble_eq_true rfl⟩ ⟨Nat.le_of_ble_eq_true rfl, Nat.le_of_ble_eq_true rfl⟩ hlt h (fun I7 J8 h => ?_)
    refine am_iinc (j := 1) (v := x1 + 1) (L2 := [(1, .int (x1 + 1)), (0, .ref (ad 4))]) dD_forget_17 rfl (congrArg (x1 + ·) (by decide : Int32.ofInt (1) = 1)) (Nat.le_of_ble_eq_true rfl) rfl ?_
    refine am_goto 2 dD_forget_20 (by decide) ?_
    exact am_sub [1, 0] rfl h

def w_D_forget (I : am_MI) (J : am_MJ) (Q : am_MI → am_MJ → Prop) (X : String → am_MI → am_MJ → Prop) : Prop :=
  w_D_forget_2 (0 : Int32) I J Q X
set_option maxRecDepth 20000 in
theorem t_D_forget {l : Launch} {D : va_G} {aC : Nat → ClassId} {ad : Nat → Nat} (hlt : l.stackTraces = false) {I : am_MI} {J : am_MJ} {Q} {X} (h : w_D_forget I J Q X) : am_c l D aC yD_forget (.code yD_forget cD_forget 2 none) (am_rm 3) 0 0 [.ref (ad 4)] (am_w ad aC I J) (am_lv ad aC Q) (am_lx ad aC X) := by
  unfold w_D_forget at h
  refine am_of (ini := false) hlt (by decide +kernel) (Nat.le_of_ble_eq_true rfl) (fun h => nomatch h) ?_
  show am l D aC "BubbleBox$Directory" cD_forget 2 none false [] am_G0 (am_rm 3) 0 0 0 0 0 [(0, .ref (ad 4))] [] (am_w ad aC I J) (am_lv ad aC Q) (am_lx ad aC X)
  refine am_iconst (v := 0) dD_forget_0 (by decide) ?_
  refine am_istore_n (L2 := [(1, .int 0), (0, .ref (ad 4))]) dD_forget_1 rfl (Nat.le_of_ble_eq_true rfl) rfl ?_
  exact am_sub [1, 0] rfl (t_D_forget_2 hlt h)
section
variable {l : Launch} {D : va_G} {aC : Nat → ClassId} {ad : Nat → Nat} {own : String} {cc : ByteArray} {nL : Nat} {ret : Option FieldType} {ini : Bool} {tb : List (Nat × Nat × Nat × Nat)} {G : State → (Nat → Prop) → Prop} {rm : Room} {mc ms k n pc idx : Nat} {L : List (Nat × Value)} {st rest : List Value} {I : am_MI} {J : am_MJ} {Q : Option Value → va_W → Prop} {X : String → va_W → Prop}
theorem kVN_D_forget {K : am_MI → am_MJ → Prop} (hd : decode cc pc = .ok (.invokevirtual idx, 3)) (hlink : Cond.methodLinkNest own idx yD_forget "BubbleBox" ∈ am_TN) (hcat : (rest.map fun v => v.category).sum ≤ 8) (hR : 3 + 1 ≤ rm.frames ∧ 8 + (2 + 11) + 38 * 3 ≤ rm.locals) (hk : k + 1 ≤ rm.cells ∧ n + 6 ≤ rm.slots) (hm : k ≤ mc ∧ n ≤ ms) (hlt : l.stackTraces = false) (h : w_D_forget I J K (fun _ _ _ => False)) (kk : ∀ (I1 : am_MI) (J1 : am_MJ), K I1 J1 → am l D aC own cc nL ret ini tb G rm mc ms k n (pc + 3) L rest (am_w ad aC I1 J1) Q X) : am l D aC own cc nL ret ini tb G rm mc ms k n pc L (.ref (ad 4) :: rest) (am_w ad aC I J) Q X := by
  refine am_callVN 4 2 (As := []) (N9 := 0) (am_cF (t_D_forget hlt h)) hd rfl (am_w_at ad aC I J (by omega)) rfl hlink (am_tw kw_202 rfl) (am_tw kw_201 rfl) ks_1 (am_tw kw_3 rfl) (by decide +kernel) rfl hcat ⟨rfl, rfl⟩ hR hk ?_
  intro v ws1 hq
  obtain ⟨I1, J1, rfl, rfl, hq⟩ := hq
  exact kk I1 J1 hq
end
def w_D_putInto_83 (z1 : Nat) (x3 : Int32) (I : am_MI) (J : am_MJ) (Q : am_MI → am_MJ → Prop) (X : String → am_MI → am_MJ → Prop) (P13 : Int32 → am_MI → am_MJ → Prop) : Prop :=
  ∀ P83 : Int32 → am_MI → am_MJ → Prop, (∀ (x3 : Int32) (I : am_MI) (J : am_MJ), (((101 : Int32) ≤ x3 → (w_I_dueSum z1 I J (fun (r11 : Int32) (I9 : am_MI) (J10 : am_MJ) => w_I_putNumber z1 (158 : Int32) (2 : Int32) r11 I9 J10 (fun (I12 : am_MI) (J13 : am_MJ) => Q I12 J13) (fun _ _ _ => False)) (fun _ _ _ => False))) ∧ (¬ ((101 : Int32) ≤ x3) → (vp_in x3 101 ∧ (w_I_putNumber z1 ((57 : Int32) + x3) (1 : Int32) (I 14 x3.toNatClampNeg) I J (fun (I16 : am_MI) (J17 : am_MJ) => P83 (x3 + 1) I16 J17) (fun _ _ _ => False))))) → P83 x3 I J) → P83 x3 I J
set_option maxRecDepth 20000 in
theorem t_D_putInto_83 {l : Launch} {D : va_G} {aC : Nat → ClassId} {ad : Nat → Nat} (hlt : l.stackTraces = false) {z1 : Nat} {x3 : Int32} (hz1 : z1 < 2) {I : am_MI} {J : am_MJ} {Q} {X} {P13 : Int32 → am_MI → am_MJ → Prop} (uP13 : ∀ (x3 : Int32) (I : am_MI) (J : am_MJ), P13 x3 I J → am l D aC "BubbleBox$Directory" cD_putInto 6 none false [] am_G0 (am_rm 3) 0 0 0 0 13 [(0, .ref (ad 4)), (1, .ref (ad (24 + 2 * z1))), (3, .int x3)] [] (am_w ad aC I J) (am_lv ad aC Q) (am_lx ad aC X)) (h : w_D_putInto_83 z1 x3 I J Q X P13) : am l D aC "BubbleBox$Directory" cD_putInto 6 none false [] am_G0 (am_rm 3) 0 0 0 0 83 [(0, .ref (ad 4)), (1, .ref (ad (24 + 2 * z1))), (3, .int x3)] [] (am_w ad aC I J) (am_lv ad aC Q) (am_lx ad aC X) := by
  unfold w_D_putInto_83 at h
  refine h (fun (x3 : Int32) (I : am_MI) (J : am_MJ) => am l D aC "BubbleBox$Directory" cD_putInto 6 none false [] am_G0 (am_rm 3) 0 0 0 0 83 [(0, .ref (ad 4)), (1, .ref (ad (24 + 2 * z1))), (3, .int x3)] [] (am_w ad aC I J) (am_lv ad aC Q) (am_lx ad aC X)) (fun x3 I J h => ?_)
  refine am_iload_n 2 dD_putInto_83 rfl rfl ?_
  refine am_bipush (v := 101) dD_putInto_84 (by decide) ?_
  refine am_icmp_ge 110 dD_putInto_86 (by decide) (fun hc8 => ?_) (fun hc8 => ?_)
  · replace h := h.1 hc8
    refine am_aload_n 1 dD_putInto_110 rfl rfl ?_
    refine am_sipush (v := 158) dD_putInto_111 (by decide) ?_
    refine am_iconst (v := 2) dD_putInto_114 (by decide) ?_
    refine am_aload_n 1 dD_putInto_115 rfl rfl ?_
    refine kVN_I_dueSum hz1 dD_putInto_116 (am_tn kw_413 rfl) (Nat.le_of_ble_eq_true rfl) ⟨Nat.le_of_ble_eq_true rfl, Nat.le_of_ble_eq_true rfl⟩ ⟨Nat.le_of_ble_eq_true rfl, Nat.le_of_ble_eq_true rfl⟩ ⟨Nat.le_of_ble_eq_true rfl, Nat.le_of_ble_eq_true rfl⟩ hlt h (fun r11 I9 J10 h => ?_)
    refine kVN_I_putNumber hz1 dD_putInto_119 (am_tn kw_409 rfl) (Nat.le_of_ble_eq_true rfl) ⟨Nat.le_of_ble_eq_true rfl, Nat.le_of_ble_eq_true rfl⟩ ⟨Nat.le_of_ble_eq_true rfl, Nat.le_of_ble_eq_true rfl⟩ ⟨Nat.le_of_ble_eq_true rfl, Nat.le_of_ble_eq_true rfl⟩ hlt h (fun I12 J13 h => ?_)
    exact am_vret dD_putInto_122 rfl (Nat.le_of_ble_eq_true rfl) (Nat.le_of_ble_eq_true rfl) ⟨_, _, rfl, rfl, h⟩
  · replace h := h.2 hc8
    refine am_aload_n 1 dD_putInto_89 rfl rfl ?_
    refine am_bipush (v := 57) dD_putInto_90 (by decide) ?_
    refine am_iload_n 2 dD_putInto_92 rfl rfl ?_
    refine am_iadd dD_putInto_93 ?_
    refine am_iconst (v := 1) dD_putInto_94 (by decide) ?_
    refine am_aload_n 0 dD_putInto_95 rfl rfl ?_
    refine go_D_behind dD_putInto_96 (am_tw kw_94 rfl) ?_
    refine am_iload_n 2 dD_putInto_99 rfl rfl ?_
    obtain ⟨hi15, h⟩ := h
    refine ld_14 hi15 dD_putInto_100 ?_
    refine kVN_I_putNumber hz1 dD_putInto_101 (am_tn kw_409 rfl) (Nat.le_of_ble_eq_true rfl) ⟨Nat.le_of_ble_eq_true rfl, Nat.le_of_ble_eq_true rfl⟩ ⟨Nat.le_of_ble_eq_true rfl, Nat.le_of_ble_eq_true rfl⟩ ⟨Nat.le_of_ble_eq_true rfl, Nat.le_of_ble_eq_true rfl⟩ hlt h (fun I16 J17 h => ?_)
    refine am_iinc (j := 2) (v := x3 + 1) (L2 := [(3, .int (x3 + 1)), (0, .ref (ad 4)), (1, .ref (ad (24 + 2 * z1)))]) dD_putInto_104 rfl (congrArg (x3 + ·) (by decide : Int32.ofInt (1) = 1)) (Nat.le_of_ble_eq_true rfl) rfl ?_
    refine am_goto 83 dD_putInto_107 (by decide) ?_
    exact am_sub [1, 2, 0] rfl h

def w_D_putInto_13 (z1 : Nat) (x3 : Int32) (I : am_MI) (J : am_MJ) (Q : am_MI → am_MJ → Prop) (X : String → am_MI → am_MJ → Prop) : Prop :=
  ∀ P13 : Int32 → am_MI → am_MJ → Prop, (∀ (x3 : Int32) (I : am_MI) (J : am_MJ), (((8 : Int32) ≤ x3 → (w_D_putInto_83 z1 (0 : Int32) I J Q X P13)) ∧ (¬ ((8 : Int32) ≤ x3) → (vp_in x3 8 ∧ (w_I_putNumber z1 ((1 : Int32) + (x3 * (7 : Int32))) (4 : Int32) (I (6 + x3.toNatClampNeg) 0) I J (fun (I20 : am_MI) (J21 : am_MJ) => w_I_putNumber z1 (((1 : Int32) + (x3 * (7 : Int32))) + (4 : Int32)) (1 : Int32) (I20 (6 + x3.toNatClampNeg) 1) I20 J21 (fun (I23 : am_MI) (J24 : am_MJ) => w_I_putNumber z1 (((1 : Int32) + (x3 * (7 : Int32))) + (5 : Int32)) (2 : Int32) (I23 (6 + x3.toNatClampNeg) 2) I23 J24 (fun (I26 : am_MI) (J27 : am_MJ) => P13 (x3 + 1) I26 J27) (fun _ _ _ => False)) (fun _ _ _ => False)) (fun _ _ _ => False))))) → P13 x3 I J) → P13 x3 I J
set_option maxRecDepth 20000 in
theorem t_D_putInto_13 {l : Launch} {D : va_G} {aC : Nat → ClassId} {ad : Nat → Nat} (hlt : l.stackTraces = false) {z1 : Nat} {x3 : Int32} (hz1 : z1 < 2) {I : am_MI} {J : am_MJ} {Q} {X} (h : w_D_putInto_13 z1 x3 I J Q X) : am l D aC "BubbleBox$Directory" cD_putInto 6 none false [] am_G0 (am_rm 3) 0 0 0 0 13 [(0, .ref (ad 4)), (1, .ref (ad (24 + 2 * z1))), (3, .int x3)] [] (am_w ad aC I J) (am_lv ad aC Q) (am_lx ad aC X) := by
  unfold w_D_putInto_13 at h
  refine h (fun (x3 : Int32) (I : am_MI) (J : am_MJ) => am l D aC "BubbleBox$Directory" cD_putInto 6 none false [] am_G0 (am_rm 3) 0 0 0 0 13 [(0, .ref (ad 4)), (1, .ref (ad (24 + 2 * z1))), (3, .int x3)] [] (am_w ad aC I J) (am_lv ad aC Q) (am_lx ad aC X)) (fun x3 I J h => ?_)
  refine am_iload_n 2 dD_putInto_13 rfl rfl ?_
  refine am_bipush (v := 8) dD_putInto_14 (by decide) ?_
  refine am_icmp_ge 81 dD_putInto_16 (by decide) (fun hc7 => ?_) (fun hc7 => ?_)
  · replace h := h.1 hc7
    refine am_iconst (v := 0) dD_putInto_81 (by decide) ?_
    refine am_istore_n (L2 := [(3, .int 0), (0, .ref (ad 4)), (1, .ref (ad (24 + 2 * z1)))]) dD_putInto_82 rfl (Nat.le_of_ble_eq_true rfl) rfl ?_
    exact am_sub [1, 2, 0] rfl (t_D_putInto_83 hlt hz1 (fun _ _ _ h => h) h)
  · replace h := h.2 hc7
    refine am_iconst (v := 1) dD_putInto_19 (by decide) ?_
    refine am_iload_n 2 dD_putInto_20 rfl rfl ?_
    refine am_bipush (v := 7) dD_putInto_21 (by decide) ?_
    refine am_imul dD_putInto_23 ?_
    refine am_iadd dD_putInto_24 ?_
    refine am_istore (L2 := [(4, .int ((1 : Int32) + (x3 * (7 : Int32)))), (0, .ref (ad 4)), (1, .ref (ad (24 + 2 * z1))), (3, .int x3)]) dD_putInto_25 (Nat.le_of_ble_eq_true rfl) rfl ?_
    refine am_aload_n 1 dD_putInto_27 rfl rfl ?_
    refine go_D_entries dD_putInto_28 (am_tw kw_92 rfl) ?_
    refine am_iload_n 3 dD_putInto_31 rfl rfl ?_
    obtain ⟨hi19, h⟩ := h
    refine al_5 hi19 dD_putInto_32 ?_
    refine am_astore (L2 := [(5, .ref (ad (6 + x3.toNatClampNeg))), (4, .int ((1 : Int32) + (x3 * (7 : Int32)))), (0, .ref (ad 4)), (1, .ref (ad (24 + 2 * z1))), (3, .int x3)]) dD_putInto_33 (Nat.le_of_ble_eq_true rfl) rfl ?_
    refine am_aload_n 3 dD_putInto_35 rfl rfl ?_
    refine am_iload 1 dD_putInto_36 rfl ?_
    refine am_iconst (v := 4) dD_putInto_38 (by decide) ?_
    refine am_aload 0 dD_putInto_39 rfl ?_
    refine gn_E_name (am_lt hi19) dD_putInto_41 (am_tn kw_65 rfl) ?_
    refine kVN_I_putNumber hz1 dD_putInto_44 (am_tn kw_409 rfl) (Nat.le_of_ble_eq_true rfl) ⟨Nat.le_of_ble_eq_true rfl, Nat.le_of_ble_eq_true rfl⟩ ⟨Nat.le_of_ble_eq_true rfl, Nat.le_of_ble_eq_true rfl⟩ ⟨Nat.le_of_ble_eq_true rfl, Nat.le_of_ble_eq_true rfl⟩ hlt h (fun I20 J21 h => ?_)
    refine am_aload_n 3 dD_putInto_47 rfl rfl ?_
    refine am_iload 1 dD_putInto_48 rfl ?_
    refine am_iconst (v := 4) dD_putInto_50 (by decide) ?_
    refine am_iadd dD_putInto_51 ?_
    refine am_iconst (v := 1) dD_putInto_52 (by decide) ?_
    refine am_aload 0 dD_putInto_53 rfl ?_
    refine gn_E_firstPage (am_lt hi19) dD_putInto_55 (am_tn kw_68 rfl) ?_
    refine kVN_I_putNumber hz1 dD_putInto_58 (am_tn kw_409 rfl) (Nat.le_of_ble_eq_true rfl) ⟨Nat.le_of_ble_eq_true rfl, Nat.le_of_ble_eq_true rfl⟩ ⟨Nat.le_of_ble_eq_true rfl, Nat.le_of_ble_eq_true rfl⟩ ⟨Nat.le_of_ble_eq_true rfl, Nat.le_of_ble_eq_true rfl⟩ hlt h (fun I23 J24 h => ?_)
    refine am_aload_n 3 dD_putInto_61 rfl rfl ?_
    refine am_iload 1 dD_putInto_62 rfl ?_
    refine am_iconst (v := 5) dD_putInto_64 (by decide) ?_
    refine am_iadd dD_putInto_65 ?_
    refine am_iconst (v := 2) dD_putInto_66 (by decide) ?_
    refine am_aload 0 dD_putInto_67 rfl ?_
    refine gn_E_bytes (am_lt hi19) dD_putInto_69 (am_tn kw_70 rfl) ?_
    refine kVN_I_putNumber hz1 dD_putInto_72 (am_tn kw_409 rfl) (Nat.le_of_ble_eq_true rfl) ⟨Nat.le_of_ble_eq_true rfl, Nat.le_of_ble_eq_true rfl⟩ ⟨Nat.le_of_ble_eq_true rfl, Nat.le_of_ble_eq_true rfl⟩ ⟨Nat.le_of_ble_eq_true rfl, Nat.le_of_ble_eq_true rfl⟩ hlt h (fun I26 J27 h => ?_)
    refine am_iinc (j := 4) (v := x3 + 1) (L2 := [(3, .int (x3 + 1)), (5, .ref (ad (6 + x3.toNatClampNeg))), (4, .int ((1 : Int32) + (x3 * (7 : Int32)))), (0, .ref (ad 4)), (1, .ref (ad (24 + 2 * z1)))]) dD_putInto_75 rfl (congrArg (x3 + ·) (by decide : Int32.ofInt (1) = 1)) (Nat.le_of_ble_eq_true rfl) rfl ?_
    refine am_goto 13 dD_putInto_78 (by decide) ?_
    exact am_sub [3, 4, 0] rfl h

def w_D_putInto (g1 : Nat) (a1 : Int32) (I : am_MI) (J : am_MJ) (Q : am_MI → am_MJ → Prop) (X : String → am_MI → am_MJ → Prop) : Prop :=
  w_I_clear g1 I J (fun (I1 : am_MI) (J2 : am_MJ) => w_I_putNumber g1 (0 : Int32) (1 : Int32) a1 I1 J2 (fun (I4 : am_MI) (J5 : am_MJ) => w_D_putInto_13 g1 (0 : Int32) I4 J5 Q X) (fun _ _ _ => False)) (fun _ _ _ => False)
set_option maxRecDepth 20000 in
theorem t_D_putInto {l : Launch} {D : va_G} {aC : Nat → ClassId} {ad : Nat → Nat} (hlt : l.stackTraces = false) {g1 : Nat} {a1 : Int32} (hg1 : g1 < 2) {I : am_MI} {J : am_MJ} {Q} {X} (h : w_D_putInto g1 a1 I J Q X) : am_c l D aC yD_putInto (.code yD_putInto cD_putInto 6 none) (am_rm 3) 0 0 [.ref (ad 4), .ref (ad (24 + 2 * g1)), .int a1] (am_w ad aC I J) (am_lv ad aC Q) (am_lx ad aC X) := by
  unfold w_D_putInto at h
  refine am_of (ini := false) hlt (by decide +kernel) (Nat.le_of_ble_eq_true rfl) (fun h => nomatch h) ?_
  show am l D aC "BubbleBox$Directory" cD_putInto 6 none false [] am_G0 (am_rm 3) 0 0 0 0 0 [(0, .ref (ad 4)), (1, .ref (ad (24 + 2 * g1))), (2, .int a1)] [] (am_w ad aC I J) (am_lv ad aC Q) (am_lx ad aC X)
  refine am_aload_n 1 dD_putInto_0 rfl rfl ?_
  refine kVN_I_clear hg1 dD_putInto_1 (am_tn kw_405 rfl) (Nat.le_of_ble_eq_true rfl) ⟨Nat.le_of_ble_eq_true rfl, Nat.le_of_ble_eq_true rfl⟩ ⟨Nat.le_of_ble_eq_true rfl, Nat.le_of_ble_eq_true rfl⟩ ⟨Nat.le_of_ble_eq_true rfl, Nat.le_of_ble_eq_true rfl⟩ hlt h (fun I1 J2 h => ?_)
  refine am_aload_n 1 dD_putInto_4 rfl rfl ?_
  refine am_iconst (v := 0) dD_putInto_5 (by decide) ?_
  refine am_iconst (v := 1) dD_putInto_6 (by decide) ?_
  refine am_iload_n 2 dD_putInto_7 rfl rfl ?_
  refine kVN_I_putNumber hg1 dD_putInto_8 (am_tn kw_409 rfl) (Nat.le_of_ble_eq_true rfl) ⟨Nat.le_of_ble_eq_true rfl, Nat.le_of_ble_eq_true rfl⟩ ⟨Nat.le_of_ble_eq_true rfl, Nat.le_of_ble_eq_true rfl⟩ ⟨Nat.le_of_ble_eq_true rfl, Nat.le_of_ble_eq_true rfl⟩ hlt h (fun I4 J5 h => ?_)
  refine am_iconst (v := 0) dD_putInto_11 (by decide) ?_
  refine am_istore_n (L2 := [(3, .int 0), (0, .ref (ad 4)), (1, .ref (ad (24 + 2 * g1))), (2, .int a1)]) dD_putInto_12 rfl (Nat.le_of_ble_eq_true rfl) rfl ?_
  exact am_sub [1, 2, 0] rfl (t_D_putInto_13 hlt hg1 h)
section
variable {l : Launch} {D : va_G} {aC : Nat → ClassId} {ad : Nat → Nat} {own : String} {cc : ByteArray} {nL : Nat} {ret : Option FieldType} {ini : Bool} {tb : List (Nat × Nat × Nat × Nat)} {G : State → (Nat → Prop) → Prop} {rm : Room} {mc ms k n pc idx : Nat} {L : List (Nat × Value)} {st rest : List Value} {I : am_MI} {J : am_MJ} {Q : Option Value → va_W → Prop} {X : String → va_W → Prop}
theorem kVN_D_putInto {g1 : Nat} {a1 : Int32} {K : am_MI → am_MJ → Prop} (hg1 : g1 < 2) (hd : decode cc pc = .ok (.invokevirtual idx, 3)) (hlink : Cond.methodLinkNest own idx yD_putInto "BubbleBox" ∈ am_TN) (hcat : (rest.map fun v => v.category).sum ≤ 8) (hR : 3 + 1 ≤ rm.frames ∧ 8 + (6 + 11) + 38 * 3 ≤ rm.locals) (hk : k + 1 ≤ rm.cells ∧ n + 6 ≤ rm.slots) (hm : k ≤ mc ∧ n ≤ ms) (hlt : l.stackTraces = false) (h : w_D_putInto g1 a1 I J K (fun _ _ _ => False)) (kk : ∀ (I1 : am_MI) (J1 : am_MJ), K I1 J1 → am l D aC own cc nL ret ini tb G rm mc ms k n (pc + 3) L rest (am_w ad aC I1 J1) Q X) : am l D aC own cc nL ret ini tb G rm mc ms k n pc L (.int a1 :: .ref (ad (24 + 2 * g1)) :: .ref (ad 4) :: rest) (am_w ad aC I J) Q X := by
  refine am_callVN 4 2 (As := [.ref (ad (24 + 2 * g1)), .int a1]) (N9 := 2) (am_cF (t_D_putInto hlt hg1 h)) hd rfl (am_w_at ad aC I J (by omega)) rfl hlink (am_tw kw_404 rfl) (am_tw kw_403 rfl) ks_25 (am_tw kw_3 rfl) (by decide +kernel) rfl hcat ⟨rfl, rfl⟩ hR hk ?_
  intro v ws1 hq
  obtain ⟨I1, J1, rfl, rfl, hq⟩ := hq
  exact kk I1 J1 hq
end

def w_D_replaceLastPage (e1 : Nat) (a1 : Int32) (I : am_MI) (J : am_MJ) (Q : am_MI → am_MJ → Prop) (X : String → am_MI → am_MJ → Prop) : Prop :=
  w_B_pagesFor (I (6 + e1) 2) I J (fun (r3 : Int32) (I1 : am_MI) (J2 : am_MJ) => w_D_pageAt e1 (r3 - (1 : Int32)) I1 J2 (fun (r6 : Int32) (I4 : am_MI) (J5 : am_MJ) => vp_in r6 101 ∧ (w_D_putPageAt e1 (r3 - (1 : Int32)) a1 (am_ui I4 15 r6.toNatClampNeg (vp_nar .boolean (0 : Int32))) J5 (fun (I8 : am_MI) (J9 : am_MJ) => vp_in a1 101 ∧ (Q (am_ui I8 15 a1.toNatClampNeg (vp_nar .boolean (1 : Int32))) J9)) X)) X) (fun _ _ _ => False)
set_option maxRecDepth 20000 in
theorem t_D_replaceLastPage {l : Launch} {D : va_G} {aC : Nat → ClassId} {ad : Nat → Nat} (hlt : l.stackTraces = false) {e1 : Nat} {a1 : Int32} (he1 : e1 < 8) {I : am_MI} {J : am_MJ} {Q} {X} (h : w_D_replaceLastPage e1 a1 I J Q X) : am_c l D aC yD_replaceLastPage (.code yD_replaceLastPage cD_replaceLastPage 4 none) (am_rm 3) 0 0 [.ref (ad 4), .ref (ad (6 + e1)), .int a1] (am_w ad aC I J) (am_lv ad aC Q) (am_lx ad aC X) := by
  unfold w_D_replaceLastPage at h
  refine am_of (ini := false) hlt (by decide +kernel) (Nat.le_of_ble_eq_true rfl) (fun h => nomatch h) ?_
  show am l D aC "BubbleBox$Directory" cD_replaceLastPage 4 none false [] am_G0 (am_rm 3) 0 0 0 0 0 [(0, .ref (ad 4)), (1, .ref (ad (6 + e1))), (2, .int a1)] [] (am_w ad aC I J) (am_lv ad aC Q) (am_lx ad aC X)
  refine am_aload_n 1 dD_replaceLastPage_0 rfl rfl ?_
  refine gn_E_bytes he1 dD_replaceLastPage_1 (am_tn kw_70 rfl) ?_
  refine kSN_B_pagesFor dD_replaceLastPage_4 (am_tn kw_334 rfl) (Nat.le_of_ble_eq_true rfl) ⟨Nat.le_of_ble_eq_true rfl, Nat.le_of_ble_eq_true rfl⟩ ⟨Nat.le_of_ble_eq_true rfl, Nat.le_of_ble_eq_true rfl⟩ ⟨Nat.le_of_ble_eq_true rfl, Nat.le_of_ble_eq_true rfl⟩ hlt h (fun r3 I1 J2 h => ?_)
  refine am_iconst (v := 1) dD_replaceLastPage_7 (by decide) ?_
  refine am_isub dD_replaceLastPage_8 ?_
  refine am_istore_n (L2 := [(3, .int (r3 - (1 : Int32))), (0, .ref (ad 4)), (1, .ref (ad (6 + e1))), (2, .int a1)]) dD_replaceLastPage_9 rfl (Nat.le_of_ble_eq_true rfl) rfl ?_
  refine am_aload_n 1 dD_replaceLastPage_10 rfl rfl ?_
  refine go_D_owned dD_replaceLastPage_11 (am_tw kw_95 rfl) ?_
  refine am_aload_n 1 dD_replaceLastPage_14 rfl rfl ?_
  refine am_aload_n 2 dD_replaceLastPage_15 rfl rfl ?_
  refine am_iload_n 0 dD_replaceLastPage_16 rfl rfl ?_
  refine kV_D_pageAt he1 dD_replaceLastPage_17 (am_tw kw_500 rfl) (Nat.le_of_ble_eq_true rfl) ⟨Nat.le_of_ble_eq_true rfl, Nat.le_of_ble_eq_true rfl⟩ ⟨Nat.le_of_ble_eq_true rfl, Nat.le_of_ble_eq_true rfl⟩ ⟨Nat.le_of_ble_eq_true rfl, Nat.le_of_ble_eq_true rfl⟩ hlt h (fun r6 I4 J5 h => ?_)
  refine am_iconst (v := 0) dD_replaceLastPage_20 (by decide) ?_
  obtain ⟨hi7, h⟩ := h
  refine st_15 hi7 dD_replaceLastPage_21 ?_
  refine am_aload_n 1 dD_replaceLastPage_22 rfl rfl ?_
  refine am_aload_n 2 dD_replaceLastPage_23 rfl rfl ?_
  refine am_iload_n 0 dD_replaceLastPage_24 rfl rfl ?_
  refine am_iload_n 3 dD_replaceLastPage_25 rfl rfl ?_
  refine kV_D_putPageAt he1 dD_replaceLastPage_26 (am_tw kw_496 rfl) (Nat.le_of_ble_eq_true rfl) ⟨Nat.le_of_ble_eq_true rfl, Nat.le_of_ble_eq_true rfl⟩ ⟨Nat.le_of_ble_eq_true rfl, Nat.le_of_ble_eq_true rfl⟩ ⟨Nat.le_of_ble_eq_true rfl, Nat.le_of_ble_eq_true rfl⟩ hlt h (fun I8 J9 h => ?_)
  refine am_aload_n 1 dD_replaceLastPage_29 rfl rfl ?_
  refine go_D_owned dD_replaceLastPage_30 (am_tw kw_95 rfl) ?_
  refine am_iload_n 3 dD_replaceLastPage_33 rfl rfl ?_
  refine am_iconst (v := 1) dD_replaceLastPage_34 (by decide) ?_
  obtain ⟨hi11, h⟩ := h
  refine st_15 hi11 dD_replaceLastPage_35 ?_
  exact am_vret dD_replaceLastPage_36 rfl (Nat.le_of_ble_eq_true rfl) (Nat.le_of_ble_eq_true rfl) ⟨_, _, rfl, rfl, h⟩
section
variable {l : Launch} {D : va_G} {aC : Nat → ClassId} {ad : Nat → Nat} {own : String} {cc : ByteArray} {nL : Nat} {ret : Option FieldType} {ini : Bool} {tb : List (Nat × Nat × Nat × Nat)} {G : State → (Nat → Prop) → Prop} {rm : Room} {mc ms k n pc idx : Nat} {L : List (Nat × Value)} {st rest : List Value} {I : am_MI} {J : am_MJ} {Q : Option Value → va_W → Prop} {X : String → va_W → Prop}
theorem kVN_D_replaceLastPage {e1 : Nat} {a1 : Int32} {K : am_MI → am_MJ → Prop} (he1 : e1 < 8) (hd : decode cc pc = .ok (.invokevirtual idx, 3)) (hlink : Cond.methodLinkNest own idx yD_replaceLastPage "BubbleBox" ∈ am_TN) (hcat : (rest.map fun v => v.category).sum ≤ 8) (hR : 3 + 1 ≤ rm.frames ∧ 8 + (4 + 11) + 38 * 3 ≤ rm.locals) (hk : k + 1 ≤ rm.cells ∧ n + 6 ≤ rm.slots) (hm : k ≤ mc ∧ n ≤ ms) (hlt : l.stackTraces = false) (h : w_D_replaceLastPage e1 a1 I J K (fun _ _ _ => False)) (kk : ∀ (I1 : am_MI) (J1 : am_MJ), K I1 J1 → am l D aC own cc nL ret ini tb G rm mc ms k n (pc + 3) L rest (am_w ad aC I1 J1) Q X) : am l D aC own cc nL ret ini tb G rm mc ms k n pc L (.int a1 :: .ref (ad (6 + e1)) :: .ref (ad 4) :: rest) (am_w ad aC I J) Q X := by
  refine am_callVN 4 2 (As := [.ref (ad (6 + e1)), .int a1]) (N9 := 2) (am_cF (t_D_replaceLastPage hlt he1 h)) hd rfl (am_w_at ad aC I J (by omega)) rfl hlink (am_tw kw_518 rfl) (am_tw kw_517 rfl) ks_40 (am_tw kw_3 rfl) (by decide +kernel) rfl hcat ⟨rfl, rfl⟩ hR hk ?_
  intro v ws1 hq
  obtain ⟨I1, J1, rfl, rfl, hq⟩ := hq
  exact kk I1 J1 hq
end

def w_D_shorten (e1 : Nat) (a1 : Int32) (I : am_MI) (J : am_MJ) (Q : Int32 → am_MI → am_MJ → Prop) (X : String → am_MI → am_MJ → Prop) : Prop :=
  w_B_pagesFor a1 I J (fun (r3 : Int32) (I1 : am_MI) (J2 : am_MJ) => w_B_pagesFor (I1 (6 + e1) 2) I1 J2 (fun (r6 : Int32) (I4 : am_MI) (J5 : am_MJ) => ((r6 - r3) ≤ 0 → (Q (r6 - r3) (am_ui I4 (6 + e1) 2 a1) J5)) ∧ (¬ ((r6 - r3) ≤ 0) → (w_D_pageAt e1 r3 I4 J5 (fun (r10 : Int32) (I8 : am_MI) (J9 : am_MJ) => w_D_putPageAt e1 r3 (0 : Int32) I8 J9 (fun (I11 : am_MI) (J12 : am_MJ) => w_D_giveUp e1 r10 (r6 - r3) I11 J12 (fun (I14 : am_MI) (J15 : am_MJ) => Q (r6 - r3) (am_ui I14 (6 + e1) 2 a1) J15) X) X) X))) (fun _ _ _ => False)) (fun _ _ _ => False)
set_option maxRecDepth 20000 in
theorem t_D_shorten {l : Launch} {D : va_G} {aC : Nat → ClassId} {ad : Nat → Nat} (hlt : l.stackTraces = false) {e1 : Nat} {a1 : Int32} (he1 : e1 < 8) {I : am_MI} {J : am_MJ} {Q} {X} (h : w_D_shorten e1 a1 I J Q X) : am_c l D aC yD_shorten (.code yD_shorten cD_shorten 6 (some .int)) (am_rm 3) 0 0 [.ref (ad 4), .ref (ad (6 + e1)), .int a1] (am_w ad aC I J) (am_li ad aC Q) (am_lx ad aC X) := by
  unfold w_D_shorten at h
  refine am_of (ini := false) hlt (by decide +kernel) (Nat.le_of_ble_eq_true rfl) (fun h => nomatch h) ?_
  show am l D aC "BubbleBox$Directory" cD_shorten 6 (some .int) false [] am_G0 (am_rm 3) 0 0 0 0 0 [(0, .ref (ad 4)), (1, .ref (ad (6 + e1))), (2, .int a1)] [] (am_w ad aC I J) (am_li ad aC Q) (am_lx ad aC X)
  refine am_iload_n 2 dD_shorten_0 rfl rfl ?_
  refine kSN_B_pagesFor dD_shorten_1 (am_tn kw_334 rfl) (Nat.le_of_ble_eq_true rfl) ⟨Nat.le_of_ble_eq_true rfl, Nat.le_of_ble_eq_true rfl⟩ ⟨Nat.le_of_ble_eq_true rfl, Nat.le_of_ble_eq_true rfl⟩ ⟨Nat.le_of_ble_eq_true rfl, Nat.le_of_ble_eq_true rfl⟩ hlt h (fun r3 I1 J2 h => ?_)
  refine am_istore_n (L2 := [(3, .int r3), (0, .ref (ad 4)), (1, .ref (ad (6 + e1))), (2, .int a1)]) dD_shorten_4 rfl (Nat.le_of_ble_eq_true rfl) rfl ?_
  refine am_aload_n 2 dD_shorten_5 rfl rfl ?_
  refine gn_E_bytes he1 dD_shorten_6 (am_tn kw_70 rfl) ?_
  refine kSN_B_pagesFor dD_shorten_9 (am_tn kw_334 rfl) (Nat.le_of_ble_eq_true rfl) ⟨Nat.le_of_ble_eq_true rfl, Nat.le_of_ble_eq_true rfl⟩ ⟨Nat.le_of_ble_eq_true rfl, Nat.le_of_ble_eq_true rfl⟩ ⟨Nat.le_of_ble_eq_true rfl, Nat.le_of_ble_eq_true rfl⟩ hlt h (fun r6 I4 J5 h => ?_)
  refine am_iload_n 0 dD_shorten_12 rfl rfl ?_
  refine am_isub dD_shorten_13 ?_
  refine am_istore (L2 := [(4, .int (r6 - r3)), (3, .int r3), (0, .ref (ad 4)), (1, .ref (ad (6 + e1))), (2, .int a1)]) dD_shorten_14 (Nat.le_of_ble_eq_true rfl) rfl ?_
  refine am_iload 0 dD_shorten_16 rfl ?_
  refine am_if_le 45 dD_shorten_18 (by decide) (fun hc7 => ?_) (fun hc7 => ?_)
  · replace h := h.1 hc7
    refine am_aload_n 3 dD_shorten_45 rfl rfl ?_
    refine am_iload_n 4 dD_shorten_46 rfl rfl ?_
    refine pn_E_bytes he1 dD_shorten_47 (am_tn kw_70 rfl) ?_
    refine am_iload 0 dD_shorten_50 rfl ?_
    exact am_iret dD_shorten_52 rfl (Nat.le_of_ble_eq_true rfl) (Nat.le_of_ble_eq_true rfl) ⟨_, _, _, rfl, rfl, h⟩
  · replace h := h.2 hc7
    refine am_aload_n 2 dD_shorten_21 rfl rfl ?_
    refine am_aload_n 3 dD_shorten_22 rfl rfl ?_
    refine am_iload_n 1 dD_shorten_23 rfl rfl ?_
    refine kV_D_pageAt he1 dD_shorten_24 (am_tw kw_500 rfl) (Nat.le_of_ble_eq_true rfl) ⟨Nat.le_of_ble_eq_true rfl, Nat.le_of_ble_eq_true rfl⟩ ⟨Nat.le_of_ble_eq_true rfl, Nat.le_of_ble_eq_true rfl⟩ ⟨Nat.le_of_ble_eq_true rfl, Nat.le_of_ble_eq_true rfl⟩ hlt h (fun r10 I8 J9 h => ?_)
    refine am_istore (L2 := [(5, .int r10), (4, .int (r6 - r3)), (3, .int r3), (0, .ref (ad 4)), (1, .ref (ad (6 + e1))), (2, .int a1)]) dD_shorten_27 (Nat.le_of_ble_eq_true rfl) rfl ?_
    refine am_aload_n 3 dD_shorten_29 rfl rfl ?_
    refine am_aload_n 4 dD_shorten_30 rfl rfl ?_
    refine am_iload_n 2 dD_shorten_31 rfl rfl ?_
    refine am_iconst (v := 0) dD_shorten_32 (by decide) ?_
    refine kV_D_putPageAt he1 dD_shorten_33 (am_tw kw_496 rfl) (Nat.le_of_ble_eq_true rfl) ⟨Nat.le_of_ble_eq_true rfl, Nat.le_of_ble_eq_true rfl⟩ ⟨Nat.le_of_ble_eq_true rfl, Nat.le_of_ble_eq_true rfl⟩ ⟨Nat.le_of_ble_eq_true rfl, Nat.le_of_ble_eq_true rfl⟩ hlt h (fun I11 J12 h => ?_)
    refine am_aload_n 3 dD_shorten_36 rfl rfl ?_
    refine am_aload_n 4 dD_shorten_37 rfl rfl ?_
    refine am_iload 0 dD_shorten_38 rfl ?_
    refine am_iload 1 dD_shorten_40 rfl ?_
    refine kV_D_giveUp he1 dD_shorten_42 (am_tw kw_565 rfl) (Nat.le_of_ble_eq_true rfl) ⟨Nat.le_of_ble_eq_true rfl, Nat.le_of_ble_eq_true rfl⟩ ⟨Nat.le_of_ble_eq_true rfl, Nat.le_of_ble_eq_true rfl⟩ ⟨Nat.le_of_ble_eq_true rfl, Nat.le_of_ble_eq_true rfl⟩ hlt h (fun I14 J15 h => ?_)
    refine am_aload_n 4 dD_shorten_45 rfl rfl ?_
    refine am_iload_n 5 dD_shorten_46 rfl rfl ?_
    refine pn_E_bytes he1 dD_shorten_47 (am_tn kw_70 rfl) ?_
    refine am_iload 1 dD_shorten_50 rfl ?_
    exact am_iret dD_shorten_52 rfl (Nat.le_of_ble_eq_true rfl) (Nat.le_of_ble_eq_true rfl) ⟨_, _, _, rfl, rfl, h⟩
section
variable {l : Launch} {D : va_G} {aC : Nat → ClassId} {ad : Nat → Nat} {own : String} {cc : ByteArray} {nL : Nat} {ret : Option FieldType} {ini : Bool} {tb : List (Nat × Nat × Nat × Nat)} {G : State → (Nat → Prop) → Prop} {rm : Room} {mc ms k n pc idx : Nat} {L : List (Nat × Value)} {st rest : List Value} {I : am_MI} {J : am_MJ} {Q : Option Value → va_W → Prop} {X : String → va_W → Prop}
theorem kVN_D_shorten {e1 : Nat} {a1 : Int32} {K : Int32 → am_MI → am_MJ → Prop} (he1 : e1 < 8) (hd : decode cc pc = .ok (.invokevirtual idx, 3)) (hlink : Cond.methodLinkNest own idx yD_shorten "BubbleBox" ∈ am_TN) (hcat : (rest.map fun v => v.category).sum ≤ 8) (hR : 3 + 1 ≤ rm.frames ∧ 8 + (6 + 11) + 38 * 3 ≤ rm.locals) (hk : k + 1 ≤ rm.cells ∧ n + 6 ≤ rm.slots) (hm : k ≤ mc ∧ n ≤ ms) (hlt : l.stackTraces = false) (h : w_D_shorten e1 a1 I J K (fun _ _ _ => False)) (kk : ∀ (r : Int32) (I1 : am_MI) (J1 : am_MJ), K r I1 J1 → am l D aC own cc nL ret ini tb G rm mc ms k n (pc + 3) L (.int r :: rest) (am_w ad aC I1 J1) Q X) : am l D aC own cc nL ret ini tb G rm mc ms k n pc L (.int a1 :: .ref (ad (6 + e1)) :: .ref (ad 4) :: rest) (am_w ad aC I J) Q X := by
  refine am_callVN 4 2 (As := [.ref (ad (6 + e1)), .int a1]) (N9 := 2) (am_cF (t_D_shorten hlt he1 h)) hd rfl (am_w_at ad aC I J (by omega)) rfl hlink (am_tw kw_564 rfl) (am_tw kw_563 rfl) ks_43 (am_tw kw_3 rfl) (by decide +kernel) rfl hcat ⟨rfl, rfl⟩ hR hk ?_
  intro v ws1 hq
  obtain ⟨r, I1, J1, rfl, rfl, hq⟩ := hq
  exact kk r I1 J1 hq
end
def w_D_takeFrom_30 (z1 : Nat) (x2 : Int32) (I : am_MI) (J : am_MJ) (Q : am_MI → am_MJ → Prop) (X : String → am_MI → am_MJ → Prop) (P2 : Int32 → am_MI → am_MJ → Prop) : Prop :=
  ∀ P30 : Int32 → am_MI → am_MJ → Prop, (∀ (x2 : Int32) (I : am_MI) (J : am_MJ), (((8 : Int32) ≤ x2 → (w_D_holdOwned I J (fun (I3 : am_MI) (J4 : am_MJ) => Q I3 J4) X)) ∧ (¬ ((8 : Int32) ≤ x2) → (vp_in x2 8 ∧ (w_I_number z1 ((1 : Int32) + (x2 * (7 : Int32))) (4 : Int32) I J (fun (r9 : Int32) (I7 : am_MI) (J8 : am_MJ) => w_I_pageNumber z1 (((1 : Int32) + (x2 * (7 : Int32))) + (4 : Int32)) (am_ui I7 (6 + x2.toNatClampNeg) 0 r9) J8 (fun (r12 : Int32) (I10 : am_MI) (J11 : am_MJ) => w_I_number z1 (((1 : Int32) + (x2 * (7 : Int32))) + (5 : Int32)) (2 : Int32) (am_ui I10 (6 + x2.toNatClampNeg) 1 r12) J11 (fun (r15 : Int32) (I13 : am_MI) (J14 : am_MJ) => w_D_ownChain x2.toNatClampNeg (am_ui I13 (6 + x2.toNatClampNeg) 2 r15) J14 (fun (I16 : am_MI) (J17 : am_MJ) => P30 (x2 + 1) I16 J17) X) (fun _ _ _ => False)) (fun _ _ _ => False)) (fun _ _ _ => False))))) → P30 x2 I J) → P30 x2 I J
set_option maxRecDepth 20000 in
theorem t_D_takeFrom_30 {l : Launch} {D : va_G} {aC : Nat → ClassId} {ad : Nat → Nat} (hlt : l.stackTraces = false) {z1 : Nat} {x2 : Int32} (hz1 : z1 < 2) {I : am_MI} {J : am_MJ} {Q} {X} {P2 : Int32 → am_MI → am_MJ → Prop} (uP2 : ∀ (x2 : Int32) (I : am_MI) (J : am_MJ), P2 x2 I J → am l D aC "BubbleBox$Directory" cD_takeFrom 5 none false [] am_G0 (am_rm 3) 0 0 0 0 2 [(0, .ref (ad 4)), (1, .ref (ad (24 + 2 * z1))), (2, .int x2)] [] (am_w ad aC I J) (am_lv ad aC Q) (am_lx ad aC X)) (h : w_D_takeFrom_30 z1 x2 I J Q X P2) : am l D aC "BubbleBox$Directory" cD_takeFrom 5 none false [] am_G0 (am_rm 3) 0 0 0 0 30 [(0, .ref (ad 4)), (1, .ref (ad (24 + 2 * z1))), (2, .int x2)] [] (am_w ad aC I J) (am_lv ad aC Q) (am_lx ad aC X) := by
  unfold w_D_takeFrom_30 at h
  refine h (fun (x2 : Int32) (I : am_MI) (J : am_MJ) => am l D aC "BubbleBox$Directory" cD_takeFrom 5 none false [] am_G0 (am_rm 3) 0 0 0 0 30 [(0, .ref (ad 4)), (1, .ref (ad (24 + 2 * z1))), (2, .int x2)] [] (am_w ad aC I J) (am_lv ad aC Q) (am_lx ad aC X)) (fun x2 I J h => ?_)
  refine am_iload_n 2 dD_takeFrom_30 rfl rfl ?_
  refine am_bipush (v := 8) dD_takeFrom_31 (by decide) ?_
  refine am_icmp_ge 99 dD_takeFrom_33 (by decide) (fun hc2 => ?_) (fun hc2 => ?_)
  · replace h := h.1 hc2
    refine am_aload_n 0 dD_takeFrom_99 rfl rfl ?_
    refine kV_D_holdOwned dD_takeFrom_100 (am_tw kw_337 rfl) (Nat.le_of_ble_eq_true rfl) ⟨Nat.le_of_ble_eq_true rfl, Nat.le_of_ble_eq_true rfl⟩ ⟨Nat.le_of_ble_eq_true rfl, Nat.le_of_ble_eq_true rfl⟩ ⟨Nat.le_of_ble_eq_true rfl, Nat.le_of_ble_eq_true rfl⟩ hlt h (fun I3 J4 h => ?_)
    exact am_vret dD_takeFrom_103 rfl (Nat.le_of_ble_eq_true rfl) (Nat.le_of_ble_eq_true rfl) ⟨_, _, rfl, rfl, h⟩
  · replace h := h.2 hc2
    refine am_iconst (v := 1) dD_takeFrom_36 (by decide) ?_
    refine am_iload_n 2 dD_takeFrom_37 rfl rfl ?_
    refine am_bipush (v := 7) dD_takeFrom_38 (by decide) ?_
    refine am_imul dD_takeFrom_40 ?_
    refine am_iadd dD_takeFrom_41 ?_
    refine am_istore_n (L2 := [(3, .int ((1 : Int32) + (x2 * (7 : Int32)))), (0, .ref (ad 4)), (1, .ref (ad (24 + 2 * z1))), (2, .int x2)]) dD_takeFrom_42 rfl (Nat.le_of_ble_eq_true rfl) rfl ?_
    refine am_aload_n 1 dD_takeFrom_43 rfl rfl ?_
    refine go_D_entries dD_takeFrom_44 (am_tw kw_92 rfl) ?_
    refine am_iload_n 3 dD_takeFrom_47 rfl rfl ?_
    obtain ⟨hi6, h⟩ := h
    refine al_5 hi6 dD_takeFrom_48 ?_
    refine am_astore (L2 := [(4, .ref (ad (6 + x2.toNatClampNeg))), (3, .int ((1 : Int32) + (x2 * (7 : Int32)))), (0, .ref (ad 4)), (1, .ref (ad (24 + 2 * z1))), (2, .int x2)]) dD_takeFrom_49 (Nat.le_of_ble_eq_true rfl) rfl ?_
    refine am_aload 0 dD_takeFrom_51 rfl ?_
    refine am_aload_n 3 dD_takeFrom_53 rfl rfl ?_
    refine am_iload_n 1 dD_takeFrom_54 rfl rfl ?_
    refine am_iconst (v := 4) dD_takeFrom_55 (by decide) ?_
    refine kVN_I_number hz1 dD_takeFrom_56 (am_tn kw_329 rfl) (Nat.le_of_ble_eq_true rfl) ⟨Nat.le_of_ble_eq_true rfl, Nat.le_of_ble_eq_true rfl⟩ ⟨Nat.le_of_ble_eq_true rfl, Nat.le_of_ble_eq_true rfl⟩ ⟨Nat.le_of_ble_eq_true rfl, Nat.le_of_ble_eq_true rfl⟩ hlt h (fun r9 I7 J8 h => ?_)
    refine pn_E_name (am_lt hi6) dD_takeFrom_59 (am_tn kw_65 rfl) ?_
    refine am_aload 0 dD_takeFrom_62 rfl ?_
    refine am_aload_n 3 dD_takeFrom_64 rfl rfl ?_
    refine am_iload_n 1 dD_takeFrom_65 rfl rfl ?_
    refine am_iconst (v := 4) dD_takeFrom_66 (by decide) ?_
    refine am_iadd dD_takeFrom_67 ?_
    refine kVN_I_pageNumber hz1 dD_takeFrom_68 (am_tn kw_325 rfl) (Nat.le_of_ble_eq_true rfl) ⟨Nat.le_of_ble_eq_true rfl, Nat.le_of_ble_eq_true rfl⟩ ⟨Nat.le_of_ble_eq_true rfl, Nat.le_of_ble_eq_true rfl⟩ ⟨Nat.le_of_ble_eq_true rfl, Nat.le_of_ble_eq_true rfl⟩ hlt h (fun r12 I10 J11 h => ?_)
    refine pn_E_firstPage (am_lt hi6) dD_takeFrom_71 (am_tn kw_68 rfl) ?_
    refine am_aload 0 dD_takeFrom_74 rfl ?_
    refine am_aload_n 3 dD_takeFrom_76 rfl rfl ?_
    refine am_iload_n 1 dD_takeFrom_77 rfl rfl ?_
    refine am_iconst (v := 5) dD_takeFrom_78 (by decide) ?_
    refine am_iadd dD_takeFrom_79 ?_
    refine am_iconst (v := 2) dD_takeFrom_80 (by decide) ?_
    refine kVN_I_number hz1 dD_takeFrom_81 (am_tn kw_329 rfl) (Nat.le_of_ble_eq_true rfl) ⟨Nat.le_of_ble_eq_true rfl, Nat.le_of_ble_eq_true rfl⟩ ⟨Nat.le_of_ble_eq_true rfl, Nat.le_of_ble_eq_true rfl⟩ ⟨Nat.le_of_ble_eq_true rfl, Nat.le_of_ble_eq_true rfl⟩ hlt h (fun r15 I13 J14 h => ?_)
    refine pn_E_bytes (am_lt hi6) dD_takeFrom_84 (am_tn kw_70 rfl) ?_
    refine am_aload_n 2 dD_takeFrom_87 rfl rfl ?_
    refine am_aload 0 dD_takeFrom_88 rfl ?_
    refine kV_D_ownChain (am_lt hi6) dD_takeFrom_90 (am_tw kw_330 rfl) (Nat.le_of_ble_eq_true rfl) ⟨Nat.le_of_ble_eq_true rfl, Nat.le_of_ble_eq_true rfl⟩ ⟨Nat.le_of_ble_eq_true rfl, Nat.le_of_ble_eq_true rfl⟩ ⟨Nat.le_of_ble_eq_true rfl, Nat.le_of_ble_eq_true rfl⟩ hlt h (fun I16 J17 h => ?_)
    refine am_iinc (j := 4) (v := x2 + 1) (L2 := [(2, .int (x2 + 1)), (4, .ref (ad (6 + x2.toNatClampNeg))), (3, .int ((1 : Int32) + (x2 * (7 : Int32)))), (0, .ref (ad 4)), (1, .ref (ad (24 + 2 * z1)))]) dD_takeFrom_93 rfl (congrArg (x2 + ·) (by decide : Int32.ofInt (1) = 1)) (Nat.le_of_ble_eq_true rfl) rfl ?_
    refine am_goto 30 dD_takeFrom_96 (by decide) ?_
    exact am_sub [3, 4, 0] rfl h

def w_D_takeFrom_2 (z1 : Nat) (x2 : Int32) (I : am_MI) (J : am_MJ) (Q : am_MI → am_MJ → Prop) (X : String → am_MI → am_MJ → Prop) : Prop :=
  ∀ P2 : Int32 → am_MI → am_MJ → Prop, (∀ (x2 : Int32) (I : am_MI) (J : am_MJ), (((101 : Int32) ≤ x2 → (w_D_takeFrom_30 z1 (0 : Int32) I J Q X P2)) ∧ (¬ ((101 : Int32) ≤ x2) → (w_I_pageNumber z1 ((57 : Int32) + x2) I J (fun (r21 : Int32) (I19 : am_MI) (J20 : am_MJ) => vp_in x2 101 ∧ (P2 (x2 + 1) (am_ui I19 14 x2.toNatClampNeg r21) J20)) (fun _ _ _ => False)))) → P2 x2 I J) → P2 x2 I J
set_option maxRecDepth 20000 in
theorem t_D_takeFrom_2 {l : Launch} {D : va_G} {aC : Nat → ClassId} {ad : Nat → Nat} (hlt : l.stackTraces = false) {z1 : Nat} {x2 : Int32} (hz1 : z1 < 2) {I : am_MI} {J : am_MJ} {Q} {X} (h : w_D_takeFrom_2 z1 x2 I J Q X) : am l D aC "BubbleBox$Directory" cD_takeFrom 5 none false [] am_G0 (am_rm 3) 0 0 0 0 2 [(0, .ref (ad 4)), (1, .ref (ad (24 + 2 * z1))), (2, .int x2)] [] (am_w ad aC I J) (am_lv ad aC Q) (am_lx ad aC X) := by
  unfold w_D_takeFrom_2 at h
  refine h (fun (x2 : Int32) (I : am_MI) (J : am_MJ) => am l D aC "BubbleBox$Directory" cD_takeFrom 5 none false [] am_G0 (am_rm 3) 0 0 0 0 2 [(0, .ref (ad 4)), (1, .ref (ad (24 + 2 * z1))), (2, .int x2)] [] (am_w ad aC I J) (am_lv ad aC Q) (am_lx ad aC X)) (fun x2 I J h => ?_)
  refine am_iload_n 2 dD_takeFrom_2 rfl rfl ?_
  refine am_bipush (v := 101) dD_takeFrom_3 (by decide) ?_
  refine am_icmp_ge 28 dD_takeFrom_5 (by decide) (fun hc1 => ?_) (fun hc1 => ?_)
  · replace h := h.1 hc1
    refine am_iconst (v := 0) dD_takeFrom_28 (by decide) ?_
    refine am_istore_n (L2 := [(2, .int 0), (0, .ref (ad 4)), (1, .ref (ad (24 + 2 * z1)))]) dD_takeFrom_29 rfl (Nat.le_of_ble_eq_true rfl) rfl ?_
    exact am_sub [1, 2, 0] rfl (t_D_takeFrom_30 hlt hz1 (fun _ _ _ h => h) h)
  · replace h := h.2 hc1
    refine am_aload_n 0 dD_takeFrom_8 rfl rfl ?_
    refine go_D_behind dD_takeFrom_9 (am_tw kw_94 rfl) ?_
    refine am_iload_n 2 dD_takeFrom_12 rfl rfl ?_
    refine am_aload_n 1 dD_takeFrom_13 rfl rfl ?_
    refine am_bipush (v := 57) dD_takeFrom_14 (by decide) ?_
    refine am_iload_n 2 dD_takeFrom_16 rfl rfl ?_
    refine am_iadd dD_takeFrom_17 ?_
    refine kVN_I_pageNumber hz1 dD_takeFrom_18 (am_tn kw_325 rfl) (Nat.le_of_ble_eq_true rfl) ⟨Nat.le_of_ble_eq_true rfl, Nat.le_of_ble_eq_true rfl⟩ ⟨Nat.le_of_ble_eq_true rfl, Nat.le_of_ble_eq_true rfl⟩ ⟨Nat.le_of_ble_eq_true rfl, Nat.le_of_ble_eq_true rfl⟩ hlt h (fun r21 I19 J20 h => ?_)
    obtain ⟨hi22, h⟩ := h
    refine st_14 hi22 dD_takeFrom_21 ?_
    refine am_iinc (j := 2) (v := x2 + 1) (L2 := [(2, .int (x2 + 1)), (0, .ref (ad 4)), (1, .ref (ad (24 + 2 * z1)))]) dD_takeFrom_22 rfl (congrArg (x2 + ·) (by decide : Int32.ofInt (1) = 1)) (Nat.le_of_ble_eq_true rfl) rfl ?_
    refine am_goto 2 dD_takeFrom_25 (by decide) ?_
    exact am_sub [1, 2, 0] rfl h

def w_D_takeFrom (g1 : Nat) (I : am_MI) (J : am_MJ) (Q : am_MI → am_MJ → Prop) (X : String → am_MI → am_MJ → Prop) : Prop :=
  w_D_takeFrom_2 g1 (0 : Int32) I J Q X
set_option maxRecDepth 20000 in
theorem t_D_takeFrom {l : Launch} {D : va_G} {aC : Nat → ClassId} {ad : Nat → Nat} (hlt : l.stackTraces = false) {g1 : Nat} (hg1 : g1 < 2) {I : am_MI} {J : am_MJ} {Q} {X} (h : w_D_takeFrom g1 I J Q X) : am_c l D aC yD_takeFrom (.code yD_takeFrom cD_takeFrom 5 none) (am_rm 3) 0 0 [.ref (ad 4), .ref (ad (24 + 2 * g1))] (am_w ad aC I J) (am_lv ad aC Q) (am_lx ad aC X) := by
  unfold w_D_takeFrom at h
  refine am_of (ini := false) hlt (by decide +kernel) (Nat.le_of_ble_eq_true rfl) (fun h => nomatch h) ?_
  show am l D aC "BubbleBox$Directory" cD_takeFrom 5 none false [] am_G0 (am_rm 3) 0 0 0 0 0 [(0, .ref (ad 4)), (1, .ref (ad (24 + 2 * g1)))] [] (am_w ad aC I J) (am_lv ad aC Q) (am_lx ad aC X)
  refine am_iconst (v := 0) dD_takeFrom_0 (by decide) ?_
  refine am_istore_n (L2 := [(2, .int 0), (0, .ref (ad 4)), (1, .ref (ad (24 + 2 * g1)))]) dD_takeFrom_1 rfl (Nat.le_of_ble_eq_true rfl) rfl ?_
  exact am_sub [1, 2, 0] rfl (t_D_takeFrom_2 hlt hg1 h)
section
variable {l : Launch} {D : va_G} {aC : Nat → ClassId} {ad : Nat → Nat} {own : String} {cc : ByteArray} {nL : Nat} {ret : Option FieldType} {ini : Bool} {tb : List (Nat × Nat × Nat × Nat)} {G : State → (Nat → Prop) → Prop} {rm : Room} {mc ms k n pc idx : Nat} {L : List (Nat × Value)} {st rest : List Value} {I : am_MI} {J : am_MJ} {Q : Option Value → va_W → Prop} {X : String → va_W → Prop}
theorem kVN_D_takeFrom {g1 : Nat} {K : am_MI → am_MJ → Prop} (hg1 : g1 < 2) (hd : decode cc pc = .ok (.invokevirtual idx, 3)) (hlink : Cond.methodLinkNest own idx yD_takeFrom "BubbleBox" ∈ am_TN) (hcat : (rest.map fun v => v.category).sum ≤ 8) (hR : 3 + 1 ≤ rm.frames ∧ 8 + (5 + 11) + 38 * 3 ≤ rm.locals) (hk : k + 1 ≤ rm.cells ∧ n + 6 ≤ rm.slots) (hm : k ≤ mc ∧ n ≤ ms) (hlt : l.stackTraces = false) (h : w_D_takeFrom g1 I J K (fun _ _ _ => False)) (kk : ∀ (I1 : am_MI) (J1 : am_MJ), K I1 J1 → am l D aC own cc nL ret ini tb G rm mc ms k n (pc + 3) L rest (am_w ad aC I1 J1) Q X) : am l D aC own cc nL ret ini tb G rm mc ms k n pc L (.ref (ad (24 + 2 * g1)) :: .ref (ad 4) :: rest) (am_w ad aC I J) Q X := by
  refine am_callVN 4 2 (As := [.ref (ad (24 + 2 * g1))]) (N9 := 1) (am_cF (t_D_takeFrom hlt hg1 h)) hd rfl (am_w_at ad aC I J (by omega)) rfl hlink (am_tw kw_324 rfl) (am_tw kw_323 rfl) ks_15 (am_tw kw_3 rfl) (by decide +kernel) rfl hcat ⟨rfl, rfl⟩ hR hk ?_
  intro v ws1 hq
  obtain ⟨I1, J1, rfl, rfl, hq⟩ := hq
  exact kk I1 J1 hq
end
