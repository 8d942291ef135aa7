theorem am_mono {l : Launch} {D : va_G} {aC : Nat → ClassId} {own : String} {cc : ByteArray} {nL : Nat} {ret : Option FieldType} {ini : Bool} {tb : List (Nat × Nat × Nat × Nat)} {G : State → (Nat → Prop) → Prop} {rm : Room} {mc ms k n pc : Nat} {L : List (Nat × Value)} {st : List Value} {ws : va_W} {Q Q2 : Option Value → va_W → Prop} {X X2 : String → va_W → Prop} (hQ : ∀ v w, Q v w → Q2 v w) (hX : ∀ E w, X E w → X2 E w) (h : am l D aC own cc nL ret ini tb G rm mc ms k n pc L st ws Q X) : am l D aC own cc nL ret ini tb G rm mc ms k n pc L st ws Q2 X2 := by
  intro p e s m args below meth c A H locs ls S hl hP hD hS T hT Y
  obtain ⟨t, a1, o, b1, b2, b3⟩ := h p e s m args below meth c A H locs ls S hl hP hD hS T hT Y
  refine ⟨t, a1, o, b1, b2, ?_⟩
  rcases b3 with ⟨⟨⟨v, w, e1, hq, r⟩, hF⟩, h4⟩ | ⟨q, e1, E, ce, L, ⟨⟨w, hx, r⟩, hF⟩, r2⟩
  · exact Or.inl ⟨⟨⟨v, w, e1, hQ _ _ hq, r⟩, hF⟩, h4⟩
  · exact Or.inr ⟨q, e1, E, ce, L, ⟨⟨w, hX _ _ hx, r⟩, hF⟩, r2⟩
section AMV
def am_v (ad : Nat → Nat) (aC : Nat → ClassId) (I : am_MI) (J : am_MJ) : va_W := (List.range 45).map fun k => (ad k, am_cell ad aC k (I k) (J k))

theorem am_v_at (ad : Nat → Nat) (aC : Nat → ClassId) (I : am_MI) (J : am_MJ) {k : Nat} (hk : k < 45) : (am_v ad aC I J)[k]? = some (ad k, am_cell ad aC k (I k) (J k)) := by
  unfold am_v
  rw [List.getElem?_map, List.getElem?_range hk]
  rfl

theorem am_v_set (ad : Nat → Nat) (aC : Nat → ClassId) (I I' : am_MI) (J J' : am_MJ) {k : Nat} (hk : k < 45) (hI : ∀ q, q ≠ k → I' q = I q) (hJ : ∀ q, q ≠ k → J' q = J q) : (am_v ad aC I J).set k (ad k, am_cell ad aC k (I' k) (J' k)) = am_v ad aC I' J' := by
  apply List.ext_getElem?
  intro q
  rw [List.getElem?_set]
  by_cases h : k = q
  · subst h
    rw [if_pos rfl, am_v_at ad aC I' J' hk, if_pos (by simpa [am_v] using hk)]
  · rw [if_neg h]
    by_cases hq : q < 45
    · rw [am_v_at ad aC I J hq, am_v_at ad aC I' J' hq, hI q (fun e => h e.symm), hJ q (fun e => h e.symm)]
    · rw [List.getElem?_eq_none (by simpa [am_v] using hq), List.getElem?_eq_none (by simpa [am_v] using hq)]

theorem am_v_seti (ad : Nat → Nat) (aC : Nat → ClassId) (I : am_MI) (J : am_MJ) {k f : Nat} {v : Int32} (hk : k < 45) : (am_v ad aC I J).set k (ad k, am_cell ad aC k (upd (I k) f v) (J k)) = am_v ad aC (am_ui I k f v) J := by
  have h := am_v_set ad aC I (am_ui I k f v) J J hk (fun q hq => by unfold am_ui; rw [if_neg hq]) (fun _ _ => rfl)
  rw [show am_ui I k f v k = upd (I k) f v by unfold am_ui; rw [if_pos rfl]] at h
  exact h

def am_vv (ad : Nat → Nat) (aC : Nat → ClassId) (K : am_MI → am_MJ → Prop) : Option Value → va_W → Prop := fun v ws => ∃ (I : am_MI) (J : am_MJ), v = none ∧ ws = am_v ad aC I J ∧ K I J

def am_vx (ad : Nat → Nat) (aC : Nat → ClassId) (X : String → am_MI → am_MJ → Prop) : String → va_W → Prop := fun E ws => ∃ (I : am_MI) (J : am_MJ), ws = am_v ad aC I J ∧ X E I J
section
variable {l : Launch} {D : va_G} {aC : Nat → ClassId} {ad : Nat → Nat} {own : String} {cc : ByteArray} {nL : Nat} {ret : Option FieldType} {ini : Bool} {tb : List (Nat × Nat × Nat × Nat)} {G : State → (Nat → Prop) → Prop} {rm : Room} {mc ms k n pc idx : Nat} {L : List (Nat × Value)} {st rest : List Value} {I : am_MI} {J : am_MJ} {Q : Option Value → va_W → Prop} {X : String → va_W → Prop}
theorem v_go_M_name (hd : decode cc pc = .ok (.getfield idx, 3)) (hlink : Cond.fieldLink own idx "BubbleBoxModel" "name" "[I" ∈ am_TW) (h : am l D aC own cc nL ret ini tb G rm mc ms k n (pc + 3) L (.ref (ad 31) :: st) (am_v ad aC I J) Q X) : am l D aC own cc nL ret ini tb G rm mc ms k n pc L (.ref (ad 28) :: st) (am_v ad aC I J) Q X :=
  am_get (C := "BubbleBoxModel") (T := am_FM) (N := 27) (fs := [.int (I 28 0), .ref (ad 29), .int (I 28 2), .ref (ad 30), .int (I 28 4), .long (J 28 5), .int (I 28 6), .int (I 28 7), .int (I 28 8), .ref (ad 31), .ref (ad 32), .ref (ad 33), .ref (ad 34), .ref (ad 35), .ref (ad 36), .int (I 28 15), .int (I 28 16), .ref (ad 37), .ref (ad 38), .ref (ad 39), .int (I 28 20), .ref (ad 40), .ref (ad 41), .ref (ad 42), .ref (ad 43), .int (I 28 25), .ref (ad 44)]) (v := .ref (ad 31)) 28 6 9 hd am_hinM (am_v_at ad aC I J (k := 28) (Nat.le_of_ble_eq_true rfl)) rfl (by decide) rfl hlink rfl h

theorem v_go_M_length (hd : decode cc pc = .ok (.getfield idx, 3)) (hlink : Cond.fieldLink own idx "BubbleBoxModel" "length" "[I" ∈ am_TW) (h : am l D aC own cc nL ret ini tb G rm mc ms k n (pc + 3) L (.ref (ad 32) :: st) (am_v ad aC I J) Q X) : am l D aC own cc nL ret ini tb G rm mc ms k n pc L (.ref (ad 28) :: st) (am_v ad aC I J) Q X :=
  am_get (C := "BubbleBoxModel") (T := am_FM) (N := 27) (fs := [.int (I 28 0), .ref (ad 29), .int (I 28 2), .ref (ad 30), .int (I 28 4), .long (J 28 5), .int (I 28 6), .int (I 28 7), .int (I 28 8), .ref (ad 31), .ref (ad 32), .ref (ad 33), .ref (ad 34), .ref (ad 35), .ref (ad 36), .int (I 28 15), .int (I 28 16), .ref (ad 37), .ref (ad 38), .ref (ad 39), .int (I 28 20), .ref (ad 40), .ref (ad 41), .ref (ad 42), .ref (ad 43), .int (I 28 25), .ref (ad 44)]) (v := .ref (ad 32)) 28 6 10 hd am_hinM (am_v_at ad aC I J (k := 28) (Nat.le_of_ble_eq_true rfl)) rfl (by decide) rfl hlink rfl h

theorem v_go_M_windowPage (hd : decode cc pc = .ok (.getfield idx, 3)) (hlink : Cond.fieldLink own idx "BubbleBoxModel" "windowPage" "[I" ∈ am_TW) (h : am l D aC own cc nL ret ini tb G rm mc ms k n (pc + 3) L (.ref (ad 34) :: st) (am_v ad aC I J) Q X) : am l D aC own cc nL ret ini tb G rm mc ms k n pc L (.ref (ad 28) :: st) (am_v ad aC I J) Q X :=
  am_get (C := "BubbleBoxModel") (T := am_FM) (N := 27) (fs := [.int (I 28 0), .ref (ad 29), .int (I 28 2), .ref (ad 30), .int (I 28 4), .long (J 28 5), .int (I 28 6), .int (I 28 7), .int (I 28 8), .ref (ad 31), .ref (ad 32), .ref (ad 33), .ref (ad 34), .ref (ad 35), .ref (ad 36), .int (I 28 15), .int (I 28 16), .ref (ad 37), .ref (ad 38), .ref (ad 39), .int (I 28 20), .ref (ad 40), .ref (ad 41), .ref (ad 42), .ref (ad 43), .int (I 28 25), .ref (ad 44)]) (v := .ref (ad 34)) 28 6 12 hd am_hinM (am_v_at ad aC I J (k := 28) (Nat.le_of_ble_eq_true rfl)) rfl (by decide) rfl hlink rfl h

theorem v_go_M_changed (hd : decode cc pc = .ok (.getfield idx, 3)) (hlink : Cond.fieldLink own idx "BubbleBoxModel" "changed" "[Z" ∈ am_TW) (h : am l D aC own cc nL ret ini tb G rm mc ms k n (pc + 3) L (.ref (ad 36) :: st) (am_v ad aC I J) Q X) : am l D aC own cc nL ret ini tb G rm mc ms k n pc L (.ref (ad 28) :: st) (am_v ad aC I J) Q X :=
  am_get (C := "BubbleBoxModel") (T := am_FM) (N := 27) (fs := [.int (I 28 0), .ref (ad 29), .int (I 28 2), .ref (ad 30), .int (I 28 4), .long (J 28 5), .int (I 28 6), .int (I 28 7), .int (I 28 8), .ref (ad 31), .ref (ad 32), .ref (ad 33), .ref (ad 34), .ref (ad 35), .ref (ad 36), .int (I 28 15), .int (I 28 16), .ref (ad 37), .ref (ad 38), .ref (ad 39), .int (I 28 20), .ref (ad 40), .ref (ad 41), .ref (ad 42), .ref (ad 43), .int (I 28 25), .ref (ad 44)]) (v := .ref (ad 36)) 28 6 14 hd am_hinM (am_v_at ad aC I J (k := 28) (Nat.le_of_ble_eq_true rfl)) rfl (by decide) rfl hlink rfl h

theorem v_go_M_held (hd : decode cc pc = .ok (.getfield idx, 3)) (hlink : Cond.fieldLink own idx "BubbleBoxModel" "held" "[Z" ∈ am_TW) (h : am l D aC own cc nL ret ini tb G rm mc ms k n (pc + 3) L (.ref (ad 37) :: st) (am_v ad aC I J) Q X) : am l D aC own cc nL ret ini tb G rm mc ms k n pc L (.ref (ad 28) :: st) (am_v ad aC I J) Q X :=
  am_get (C := "BubbleBoxModel") (T := am_FM) (N := 27) (fs := [.int (I 28 0), .ref (ad 29), .int (I 28 2), .ref (ad 30), .int (I 28 4), .long (J 28 5), .int (I 28 6), .int (I 28 7), .int (I 28 8), .ref (ad 31), .ref (ad 32), .ref (ad 33), .ref (ad 34), .ref (ad 35), .ref (ad 36), .int (I 28 15), .int (I 28 16), .ref (ad 37), .ref (ad 38), .ref (ad 39), .int (I 28 20), .ref (ad 40), .ref (ad 41), .ref (ad 42), .ref (ad 43), .int (I 28 25), .ref (ad 44)]) (v := .ref (ad 37)) 28 6 17 hd am_hinM (am_v_at ad aC I J (k := 28) (Nat.le_of_ble_eq_true rfl)) rfl (by decide) rfl hlink rfl h

theorem v_po_M_mounted {v : Int32} (hd : decode cc pc = .ok (.putfield idx, 3)) (hlink : Cond.fieldLink own idx "BubbleBoxModel" "mounted" "Z" ∈ am_TW) (hb : v = 0 ∨ v = 1) (h : am l D aC own cc nL ret ini tb G rm mc ms k n (pc + 3) L st (am_v ad aC (am_ui I 28 8 v) J) Q X) : am l D aC own cc nL ret ini tb G rm mc ms k n pc L (.int v :: .ref (ad 28) :: st) (am_v ad aC I J) Q X :=
  am_put (C := "BubbleBoxModel") (T := am_FM) (N := 27) (fs := [.int (I 28 0), .ref (ad 29), .int (I 28 2), .ref (ad 30), .int (I 28 4), .long (J 28 5), .int (I 28 6), .int (I 28 7), .int (I 28 8), .ref (ad 31), .ref (ad 32), .ref (ad 33), .ref (ad 34), .ref (ad 35), .ref (ad 36), .int (I 28 15), .int (I 28 16), .ref (ad 37), .ref (ad 38), .ref (ad 39), .int (I 28 20), .ref (ad 40), .ref (ad 41), .ref (ad 42), .ref (ad 43), .int (I 28 25), .ref (ad 44)]) (v := .int v) 28 6 8 hd am_hinM (am_v_at ad aC I J (k := 28) (Nat.le_of_ble_eq_true rfl)) rfl (by decide) am_tM am_tkM am_nM rfl hlink rfl (by rcases hb with rfl | rfl <;> rfl) (by rcases hb with rfl | rfl <;> rfl) (Nat.le_of_ble_eq_true rfl) (am_v_seti ad aC I J (k := 28) (f := 8) (v := v) (Nat.le_of_ble_eq_true rfl)) h

theorem v_po_M_requests {v : Int32} (hd : decode cc pc = .ok (.putfield idx, 3)) (hlink : Cond.fieldLink own idx "BubbleBoxModel" "requests" "I" ∈ am_TW) (h : am l D aC own cc nL ret ini tb G rm mc ms k n (pc + 3) L st (am_v ad aC (am_ui I 28 20 v) J) Q X) : am l D aC own cc nL ret ini tb G rm mc ms k n pc L (.int v :: .ref (ad 28) :: st) (am_v ad aC I J) Q X :=
  am_put (C := "BubbleBoxModel") (T := am_FM) (N := 27) (fs := [.int (I 28 0), .ref (ad 29), .int (I 28 2), .ref (ad 30), .int (I 28 4), .long (J 28 5), .int (I 28 6), .int (I 28 7), .int (I 28 8), .ref (ad 31), .ref (ad 32), .ref (ad 33), .ref (ad 34), .ref (ad 35), .ref (ad 36), .int (I 28 15), .int (I 28 16), .ref (ad 37), .ref (ad 38), .ref (ad 39), .int (I 28 20), .ref (ad 40), .ref (ad 41), .ref (ad 42), .ref (ad 43), .int (I 28 25), .ref (ad 44)]) (v := .int v) 28 6 20 hd am_hinM (am_v_at ad aC I J (k := 28) (Nat.le_of_ble_eq_true rfl)) rfl (by decide) am_tM am_tkM am_nM rfl hlink rfl rfl rfl (Nat.le_of_ble_eq_true rfl) (am_v_seti ad aC I J (k := 28) (f := 20) (v := v) (Nat.le_of_ble_eq_true rfl)) h

theorem v_po_M_answers {v : Int32} (hd : decode cc pc = .ok (.putfield idx, 3)) (hlink : Cond.fieldLink own idx "BubbleBoxModel" "answers" "I" ∈ am_TW) (h : am l D aC own cc nL ret ini tb G rm mc ms k n (pc + 3) L st (am_v ad aC (am_ui I 28 25 v) J) Q X) : am l D aC own cc nL ret ini tb G rm mc ms k n pc L (.int v :: .ref (ad 28) :: st) (am_v ad aC I J) Q X :=
  am_put (C := "BubbleBoxModel") (T := am_FM) (N := 27) (fs := [.int (I 28 0), .ref (ad 29), .int (I 28 2), .ref (ad 30), .int (I 28 4), .long (J 28 5), .int (I 28 6), .int (I 28 7), .int (I 28 8), .ref (ad 31), .ref (ad 32), .ref (ad 33), .ref (ad 34), .ref (ad 35), .ref (ad 36), .int (I 28 15), .int (I 28 16), .ref (ad 37), .ref (ad 38), .ref (ad 39), .int (I 28 20), .ref (ad 40), .ref (ad 41), .ref (ad 42), .ref (ad 43), .int (I 28 25), .ref (ad 44)]) (v := .int v) 28 6 25 hd am_hinM (am_v_at ad aC I J (k := 28) (Nat.le_of_ble_eq_true rfl)) rfl (by decide) am_tM am_tkM am_nM rfl hlink rfl rfl rfl (Nat.le_of_ble_eq_true rfl) (am_v_seti ad aC I J (k := 28) (f := 25) (v := v) (Nat.le_of_ble_eq_true rfl)) h

theorem v_st_31 {x : Int32} {v : Int32} (hin : vp_in x 8) (hd : decode cc pc = .ok (.iastore, 1)) (h : am l D aC own cc nL ret ini tb G rm mc ms k n (pc + 1) L st (am_v ad aC (am_ui I 31 x.toNatClampNeg (v)) J) Q X) : am l D aC own cc nL ret ini tb G rm mc ms k n pc L (.int v :: .int x :: .ref (ad 31) :: st) (am_v ad aC I J) Q X :=
  am_iast 31 hd (am_v_at ad aC I J (k := 31) (Nat.le_of_ble_eq_true rfl)) hin (am_v_seti ad aC I J (k := 31) (f := x.toNatClampNeg) (v := v) (Nat.le_of_ble_eq_true rfl)) h

theorem v_st_32 {x : Int32} {v : Int32} (hin : vp_in x 8) (hd : decode cc pc = .ok (.iastore, 1)) (h : am l D aC own cc nL ret ini tb G rm mc ms k n (pc + 1) L st (am_v ad aC (am_ui I 32 x.toNatClampNeg (v)) J) Q X) : am l D aC own cc nL ret ini tb G rm mc ms k n pc L (.int v :: .int x :: .ref (ad 32) :: st) (am_v ad aC I J) Q X :=
  am_iast 32 hd (am_v_at ad aC I J (k := 32) (Nat.le_of_ble_eq_true rfl)) hin (am_v_seti ad aC I J (k := 32) (f := x.toNatClampNeg) (v := v) (Nat.le_of_ble_eq_true rfl)) h

theorem v_st_34 {x : Int32} {v : Int32} (hin : vp_in x 8) (hd : decode cc pc = .ok (.iastore, 1)) (h : am l D aC own cc nL ret ini tb G rm mc ms k n (pc + 1) L st (am_v ad aC (am_ui I 34 x.toNatClampNeg (v)) J) Q X) : am l D aC own cc nL ret ini tb G rm mc ms k n pc L (.int v :: .int x :: .ref (ad 34) :: st) (am_v ad aC I J) Q X :=
  am_iast 34 hd (am_v_at ad aC I J (k := 34) (Nat.le_of_ble_eq_true rfl)) hin (am_v_seti ad aC I J (k := 34) (f := x.toNatClampNeg) (v := v) (Nat.le_of_ble_eq_true rfl)) h

theorem v_st_36 {x : Int32} {v : Int32} (hin : vp_in x 8) (hd : decode cc pc = .ok (.bastore, 1)) (h : am l D aC own cc nL ret ini tb G rm mc ms k n (pc + 1) L st (am_v ad aC (am_ui I 36 x.toNatClampNeg (vp_nar .boolean v)) J) Q X) : am l D aC own cc nL ret ini tb G rm mc ms k n pc L (.int v :: .int x :: .ref (ad 36) :: st) (am_v ad aC I J) Q X :=
  am_zast 36 hd (am_v_at ad aC I J (k := 36) (Nat.le_of_ble_eq_true rfl)) hin (am_v_seti ad aC I J (k := 36) (f := x.toNatClampNeg) (v := vp_nar .boolean v) (Nat.le_of_ble_eq_true rfl)) h

theorem v_st_37 {x : Int32} {v : Int32} (hin : vp_in x 101) (hd : decode cc pc = .ok (.bastore, 1)) (h : am l D aC own cc nL ret ini tb G rm mc ms k n (pc + 1) L st (am_v ad aC (am_ui I 37 x.toNatClampNeg (vp_nar .boolean v)) J) Q X) : am l D aC own cc nL ret ini tb G rm mc ms k n pc L (.int v :: .int x :: .ref (ad 37) :: st) (am_v ad aC I J) Q X :=
  am_zast 37 hd (am_v_at ad aC I J (k := 37) (Nat.le_of_ble_eq_true rfl)) hin (am_v_seti ad aC I J (k := 37) (f := x.toNatClampNeg) (v := vp_nar .boolean v) (Nat.le_of_ble_eq_true rfl)) h
end

set_option maxRecDepth 20000 in
theorem v_t_M_drop {l : Launch} {D : va_G} {aC : Nat → ClassId} {ad : Nat → Nat} (hlt : l.stackTraces = false) {a0 : Int32} {I : am_MI} {J : am_MJ} {Q} {X} (h : w_M_drop a0 I J Q X) : am_c l D aC yM_drop (.code yM_drop cM_drop 2 none) (am_rm 1) 0 0 [.ref (ad 28), .int a0] (am_v ad aC I J) (am_vv ad aC Q) (am_vx ad aC X) := by
  unfold w_M_drop at h
  refine am_of (ini := false) hlt (by decide +kernel) (Nat.le_of_ble_eq_true rfl) (fun h => nomatch h) ?_
  show am l D aC "BubbleBoxModel" cM_drop 2 none false [] am_G0 (am_rm 1) 0 0 0 0 0 [(0, .ref (ad 28)), (1, .int a0)] [] (am_v ad aC I J) (am_vv ad aC Q) (am_vx ad aC X)
  refine am_aload_n 0 dM_drop_0 rfl rfl ?_
  refine v_go_M_name dM_drop_1 (am_tw kw_668 rfl) ?_
  refine am_iload_n 1 dM_drop_4 rfl rfl ?_
  refine am_iconst (v := 0) dM_drop_5 (by decide) ?_
  obtain ⟨hi1, h⟩ := h
  refine v_st_31 hi1 dM_drop_6 ?_
  refine am_aload_n 0 dM_drop_7 rfl rfl ?_
  refine v_go_M_length dM_drop_8 (am_tw kw_669 rfl) ?_
  refine am_iload_n 1 dM_drop_11 rfl rfl ?_
  refine am_iconst (v := 0) dM_drop_12 (by decide) ?_
  obtain ⟨hi2, h⟩ := h
  refine v_st_32 hi2 dM_drop_13 ?_
  refine am_aload_n 0 dM_drop_14 rfl rfl ?_
  refine v_go_M_windowPage dM_drop_15 (am_tw kw_671 rfl) ?_
  refine am_iload_n 1 dM_drop_18 rfl rfl ?_
  refine am_iconst (v := (-1)) dM_drop_19 (by decide) ?_
  obtain ⟨hi3, h⟩ := h
  refine v_st_34 hi3 dM_drop_20 ?_
  refine am_aload_n 0 dM_drop_21 rfl rfl ?_
  refine v_go_M_changed dM_drop_22 (am_tw kw_673 rfl) ?_
  refine am_iload_n 1 dM_drop_25 rfl rfl ?_
  refine am_iconst (v := 0) dM_drop_26 (by decide) ?_
  obtain ⟨hi4, h⟩ := h
  refine v_st_36 hi4 dM_drop_27 ?_
  exact am_vret dM_drop_28 rfl (Nat.le_of_ble_eq_true rfl) (Nat.le_of_ble_eq_true rfl) ⟨_, _, rfl, rfl, h⟩
section
variable {l : Launch} {D : va_G} {aC : Nat → ClassId} {ad : Nat → Nat} {own : String} {cc : ByteArray} {nL : Nat} {ret : Option FieldType} {ini : Bool} {tb : List (Nat × Nat × Nat × Nat)} {G : State → (Nat → Prop) → Prop} {rm : Room} {mc ms k n pc idx : Nat} {L : List (Nat × Value)} {st rest : List Value} {I : am_MI} {J : am_MJ} {Q : Option Value → va_W → Prop} {X : String → va_W → Prop}
theorem v_kV_M_drop {a0 : Int32} {K : am_MI → am_MJ → Prop} {X1 : String → am_MI → am_MJ → Prop} (hd : decode cc pc = .ok (.invokevirtual idx, 3)) (hlink : Cond.methodLink own idx yM_drop ∈ am_TW) (hcat : (rest.map fun v => v.category).sum ≤ 8) (hR : 1 + 1 ≤ rm.frames ∧ 8 + (2 + 11) + 38 * 1 ≤ rm.locals) (hk : k + 1 ≤ rm.cells ∧ n + 6 ≤ rm.slots) (hm : k ≤ mc ∧ n ≤ ms) (hlt : l.stackTraces = false) (h : w_M_drop a0 I J K X1) (kk : ∀ (I1 : am_MI) (J1 : am_MJ), K I1 J1 → am l D aC own cc nL ret ini [] G rm mc ms k n (pc + 3) L rest (am_v ad aC I1 J1) Q (am_vx ad aC X1)) : am l D aC own cc nL ret ini [] G rm mc ms k n pc L (.int a0 :: .ref (ad 28) :: rest) (am_v ad aC I J) Q (am_vx ad aC X1) := by
  refine am_callV 28 6 (As := [.int a0]) (N9 := 1) (v_t_M_drop hlt h) hd rfl (am_v_at ad aC I J (by omega)) rfl hlink (am_tw kw_658 rfl) (am_tw kw_657 rfl) ks_51 (am_tw kw_7 rfl) (by decide +kernel) rfl hcat ⟨rfl, rfl⟩ hR hk (fun E ws1 hx => am_out (fun x hx => nomatch hx) (Nat.add_le_add_right hm.1 1) (Nat.add_le_add_right hm.2 6) hx) ?_
  intro v ws1 hq
  obtain ⟨I1, J1, rfl, rfl, hq⟩ := hq
  exact kk I1 J1 hq
end
set_option maxRecDepth 20000 in
theorem v_t_M_forget_26 {l : Launch} {D : va_G} {aC : Nat → ClassId} {ad : Nat → Nat} (hlt : l.stackTraces = false) {x1 : Int32} {I : am_MI} {J : am_MJ} {Q} {X} {P7 : Int32 → am_MI → am_MJ → Prop} (uP7 : ∀ (x1 : Int32) (I : am_MI) (J : am_MJ), P7 x1 I J → am l D aC "BubbleBoxModel" cM_forget 2 none false [] am_G0 (am_rm 2) 0 0 0 0 7 [(0, .ref (ad 28)), (1, .int x1)] [] (am_v ad aC I J) (am_vv ad aC Q) (am_vx ad aC X)) (h : w_M_forget_26 x1 I J Q X P7) : am l D aC "BubbleBoxModel" cM_forget 2 none false [] am_G0 (am_rm 2) 0 0 0 0 26 [(0, .ref (ad 28)), (1, .int x1)] [] (am_v ad aC I J) (am_vv ad aC Q) (am_vx ad aC X) := by
  unfold w_M_forget_26 at h
  refine h (fun (x1 : Int32) (I : am_MI) (J : am_MJ) => am l D aC "BubbleBoxModel" cM_forget 2 none false [] am_G0 (am_rm 2) 0 0 0 0 26 [(0, .ref (ad 28)), (1, .int x1)] [] (am_v ad aC I J) (am_vv ad aC Q) (am_vx ad aC X)) (fun x1 I J h => ?_)
  refine am_iload_n 1 dM_forget_26 rfl rfl ?_
  refine am_bipush (v := 101) dM_forget_27 (by decide) ?_
  refine am_icmp_ge 45 dM_forget_29 (by decide) (fun hc2 => ?_) (fun hc2 => ?_)
  · replace h := h.1 hc2
    refine am_aload_n 0 dM_forget_45 rfl rfl ?_
    refine am_iconst (v := 0) dM_forget_46 (by decide) ?_
    refine v_po_M_requests dM_forget_47 (am_tw kw_679 rfl) ?_
    refine am_aload_n 0 dM_forget_50 rfl rfl ?_
    refine am_iconst (v := 0) dM_forget_51 (by decide) ?_
    refine v_po_M_answers dM_forget_52 (am_tw kw_684 rfl) ?_
    exact am_vret dM_forget_55 rfl (Nat.le_of_ble_eq_true rfl) (Nat.le_of_ble_eq_true rfl) ⟨_, _, rfl, rfl, h⟩
  · replace h := h.2 hc2
    refine am_aload_n 0 dM_forget_32 rfl rfl ?_
    refine v_go_M_held dM_forget_33 (am_tw kw_676 rfl) ?_
    refine am_iload_n 1 dM_forget_36 rfl rfl ?_
    refine am_iconst (v := 0) dM_forget_37 (by decide) ?_
    obtain ⟨hi3, h⟩ := h
    refine v_st_37 hi3 dM_forget_38 ?_
    refine am_iinc (j := 1) (v := x1 + 1) (L2 := [(1, .int (x1 + 1)), (0, .ref (ad 28))]) dM_forget_39 rfl (congrArg (x1 + ·) (by decide : Int32.ofInt (1) = 1)) (Nat.le_of_ble_eq_true rfl) rfl ?_
    refine am_goto 26 dM_forget_42 (by decide) ?_
    exact am_sub [1, 0] rfl h

set_option maxRecDepth 20000 in
theorem v_t_M_forget_7 {l : Launch} {D : va_G} {aC : Nat → ClassId} {ad : Nat → Nat} (hlt : l.stackTraces = false) {x1 : Int32} {I : am_MI} {J : am_MJ} {Q} {X} (h : w_M_forget_7 x1 I J Q X) : am l D aC "BubbleBoxModel" cM_forget 2 none false [] am_G0 (am_rm 2) 0 0 0 0 7 [(0, .ref (ad 28)), (1, .int x1)] [] (am_v ad aC I J) (am_vv ad aC Q) (am_vx ad aC X) := by
  unfold w_M_forget_7 at h
  refine h (fun (x1 : Int32) (I : am_MI) (J : am_MJ) => am l D aC "BubbleBoxModel" cM_forget 2 none false [] am_G0 (am_rm 2) 0 0 0 0 7 [(0, .ref (ad 28)), (1, .int x1)] [] (am_v ad aC I J) (am_vv ad aC Q) (am_vx ad aC X)) (fun x1 I J h => ?_)
  refine am_iload_n 1 dM_forget_7 rfl rfl ?_
  refine am_bipush (v := 8) dM_forget_8 (by decide) ?_
  refine am_icmp_ge 24 dM_forget_10 (by decide) (fun hc1 => ?_) (fun hc1 => ?_)
  · replace h := h.1 hc1
    refine am_iconst (v := 0) dM_forget_24 (by decide) ?_
    refine am_istore_n (L2 := [(1, .int 0), (0, .ref (ad 28))]) dM_forget_25 rfl (Nat.le_of_ble_eq_true rfl) rfl ?_
    exact am_sub [1, 0] rfl (v_t_M_forget_26 hlt (fun _ _ _ h => h) h)
  · replace h := h.2 hc1
    refine am_aload_n 0 dM_forget_13 rfl rfl ?_
    refine am_iload_n 1 dM_forget_14 rfl rfl ?_
    refine v_kV_M_drop dM_forget_15 (am_tw kw_655 rfl) (Nat.le_of_ble_eq_true rfl) ⟨Nat.le_of_ble_eq_true rfl, Nat.le_of_ble_eq_true rfl⟩ ⟨Nat.le_of_ble_eq_true rfl, Nat.le_of_ble_eq_true rfl⟩ ⟨Nat.le_of_ble_eq_true rfl, Nat.le_of_ble_eq_true rfl⟩ hlt h (fun I4 J5 h => ?_)
    refine am_iinc (j := 1) (v := x1 + 1) (L2 := [(1, .int (x1 + 1)), (0, .ref (ad 28))]) dM_forget_18 rfl (congrArg (x1 + ·) (by decide : Int32.ofInt (1) = 1)) (Nat.le_of_ble_eq_true rfl) rfl ?_
    refine am_goto 7 dM_forget_21 (by decide) ?_
    exact am_sub [1, 0] rfl h

set_option maxRecDepth 20000 in
theorem v_t_M_forget {l : Launch} {D : va_G} {aC : Nat → ClassId} {ad : Nat → Nat} (hlt : l.stackTraces = false) {I : am_MI} {J : am_MJ} {Q} {X} (h : w_M_forget I J Q X) : am_c l D aC yM_forget (.code yM_forget cM_forget 2 none) (am_rm 2) 0 0 [.ref (ad 28)] (am_v ad aC I J) (am_vv ad aC Q) (am_vx ad aC X) := by
  unfold w_M_forget at h
  refine am_of (ini := false) hlt (by decide +kernel) (Nat.le_of_ble_eq_true rfl) (fun h => nomatch h) ?_
  show am l D aC "BubbleBoxModel" cM_forget 2 none false [] am_G0 (am_rm 2) 0 0 0 0 0 [(0, .ref (ad 28))] [] (am_v ad aC I J) (am_vv ad aC Q) (am_vx ad aC X)
  refine am_aload_n 0 dM_forget_0 rfl rfl ?_
  refine am_iconst (v := 0) dM_forget_1 (by decide) ?_
  refine v_po_M_mounted dM_forget_2 (am_tw kw_667 rfl) (by decide) ?_
  refine am_iconst (v := 0) dM_forget_5 (by decide) ?_
  refine am_istore_n (L2 := [(1, .int 0), (0, .ref (ad 28))]) dM_forget_6 rfl (Nat.le_of_ble_eq_true rfl) rfl ?_
  exact am_sub [1, 0] rfl (v_t_M_forget_7 hlt h)
section
variable {l : Launch} {D : va_G} {aC : Nat → ClassId} {ad : Nat → Nat} {own : String} {cc : ByteArray} {nL : Nat} {ret : Option FieldType} {ini : Bool} {tb : List (Nat × Nat × Nat × Nat)} {G : State → (Nat → Prop) → Prop} {rm : Room} {mc ms k n pc idx : Nat} {L : List (Nat × Value)} {st rest : List Value} {I : am_MI} {J : am_MJ} {Q : Option Value → va_W → Prop} {X : String → va_W → Prop}
theorem v_kV_M_forget {K : am_MI → am_MJ → Prop} {X1 : String → am_MI → am_MJ → Prop} (hd : decode cc pc = .ok (.invokevirtual idx, 3)) (hlink : Cond.methodLink own idx yM_forget ∈ am_TW) (hcat : (rest.map fun v => v.category).sum ≤ 8) (hR : 2 + 1 ≤ rm.frames ∧ 8 + (2 + 11) + 38 * 2 ≤ rm.locals) (hk : k + 1 ≤ rm.cells ∧ n + 6 ≤ rm.slots) (hm : k ≤ mc ∧ n ≤ ms) (hlt : l.stackTraces = false) (h : w_M_forget I J K X1) (kk : ∀ (I1 : am_MI) (J1 : am_MJ), K I1 J1 → am l D aC own cc nL ret ini [] G rm mc ms k n (pc + 3) L rest (am_v ad aC I1 J1) Q (am_vx ad aC X1)) : am l D aC own cc nL ret ini [] G rm mc ms k n pc L (.ref (ad 28) :: rest) (am_v ad aC I J) Q (am_vx ad aC X1) := by
  refine am_callV 28 6 (As := []) (N9 := 0) (v_t_M_forget hlt h) hd rfl (am_v_at ad aC I J (by omega)) rfl hlink (am_tw kw_654 rfl) (am_tw kw_653 rfl) ks_50 (am_tw kw_7 rfl) (by decide +kernel) rfl hcat ⟨rfl, rfl⟩ hR hk (fun E ws1 hx => am_out (fun x hx => nomatch hx) (Nat.add_le_add_right hm.1 1) (Nat.add_le_add_right hm.2 6) hx) ?_
  intro v ws1 hq
  obtain ⟨I1, J1, rfl, rfl, hq⟩ := hq
  exact kk I1 J1 hq
end
theorem am_e8 (ad : Nat → Nat) : (fun q => if q < 8 then some (ad (6 + q)) else none) = va_up (va_up (va_up (va_up (va_up (va_up (va_up (va_up (fun _ => none) 0 (some (ad 6))) 1 (some (ad 7))) 2 (some (ad 8))) 3 (some (ad 9))) 4 (some (ad 10))) 5 (some (ad 11))) 6 (some (ad 12))) 7 (some (ad 13)) := by
  funext q
  match q with
  | 0 => rfl
  | 1 => rfl
  | 2 => rfl
  | 3 => rfl
  | 4 => rfl
  | 5 => rfl
  | 6 => rfl
  | 7 => rfl
  | q + 8 =>
    show (if q + 8 < 8 then _ else none) = _
    rw [if_neg (by omega)]
    simp only [va_up]
    rw [if_neg (by omega), if_neg (by omega), if_neg (by omega), if_neg (by omega), if_neg (by omega), if_neg (by omega), if_neg (by omega), if_neg (by omega)]
theorem am_e2 (ad : Nat → Nat) : (fun q => if q < 2 then some (ad (24 + 2 * q)) else none) = va_up (va_up (fun _ => none) 0 (some (ad 24))) 1 (some (ad 26)) := by
  funext q
  match q with
  | 0 => rfl
  | 1 => rfl
  | q + 2 =>
    show (if q + 2 < 2 then _ else none) = _
    rw [if_neg (by omega)]
    simp only [va_up]
    rw [if_neg (by omega), if_neg (by omega)]
theorem am_v_list (ad : Nat → Nat) (aC : Nat → ClassId) (I : am_MI) (J : am_MJ) : am_v ad aC I J = [(ad 0, .inr (0, [.ref (ad 1), .ref (ad 4), .ref (ad 17), .ref (ad 23), .int ((I 0) 4), .int ((I 0) 5), .int ((I 0) 6), .int ((I 0) 7)])), (ad 1, .inr (1, [.ref (ad 2), .ref (ad 3), .int ((I 1) 2), .int ((I 1) 3), .long ((J 1) 4)])), (ad 2, .inl (aC 1, 101, .inr (.inl (J 2)))), (ad 3, .inl (aC 2, 69, .inl (I 3))), (ad 4, .inr (2, [.ref (ad 5), .ref (ad 14), .ref (ad 15), .ref (ad 16)])), (ad 5, .inl (aC 3, 8, .inr (.inr (.inr (.inr (va_up (va_up (va_up (va_up (va_up (va_up (va_up (va_up (fun _ => none) 0 (some (ad 6))) 1 (some (ad 7))) 2 (some (ad 8))) 3 (some (ad 9))) 4 (some (ad 10))) 5 (some (ad 11))) 6 (some (ad 12))) 7 (some (ad 13)))))))), (ad 6, .inr (3, [.int ((I 6) 0), .int ((I 6) 1), .int ((I 6) 2), .int ((I 6) 3), .long ((J 6) 4), .int ((I 6) 5)])), (ad 7, .inr (3, [.int ((I 7) 0), .int ((I 7) 1), .int ((I 7) 2), .int ((I 7) 3), .long ((J 7) 4), .int ((I 7) 5)])), (ad 8, .inr (3, [.int ((I 8) 0), .int ((I 8) 1), .int ((I 8) 2), .int ((I 8) 3), .long ((J 8) 4), .int ((I 8) 5)])), (ad 9, .inr (3, [.int ((I 9) 0), .int ((I 9) 1), .int ((I 9) 2), .int ((I 9) 3), .long ((J 9) 4), .int ((I 9) 5)])), (ad 10, .inr (3, [.int ((I 10) 0), .int ((I 10) 1), .int ((I 10) 2), .int ((I 10) 3), .long ((J 10) 4), .int ((I 10) 5)])), (ad 11, .inr (3, [.int ((I 11) 0), .int ((I 11) 1), .int ((I 11) 2), .int ((I 11) 3), .long ((J 11) 4), .int ((I 11) 5)])), (ad 12, .inr (3, [.int ((I 12) 0), .int ((I 12) 1), .int ((I 12) 2), .int ((I 12) 3), .long ((J 12) 4), .int ((I 12) 5)])), (ad 13, .inr (3, [.int ((I 13) 0), .int ((I 13) 1), .int ((I 13) 2), .int ((I 13) 3), .long ((J 13) 4), .int ((I 13) 5)])), (ad 14, .inl (aC 0, 101, .inl (I 14))), (ad 15, .inl (aC 2, 101, .inl (I 15))), (ad 16, .inl (aC 2, 101, .inl (I 16))), (ad 17, .inr (5, [.ref (ad 18), .ref (ad 19), .ref (ad 20), .ref (ad 21), .ref (ad 22), .int ((I 17) 5), .int ((I 17) 6)])), (ad 18, .inl (aC 0, 16, .inl (I 18))), (ad 19, .inl (aC 2, 16, .inl (I 19))), (ad 20, .inl (aC 1, 16, .inr (.inl (J 20)))), (ad 21, .inl (aC 2, 16, .inl (I 21))), (ad 22, .inl (aC 1, 16, .inr (.inl (J 22)))), (ad 23, .inl (aC 4, 2, .inr (.inr (.inr (.inr (va_up (va_up (fun _ => none) 0 (some (ad 24))) 1 (some (ad 26)))))))), (ad 24, .inr (4, [.ref (ad 25)])), (ad 25, .inl (aC 1, 20, .inr (.inl (J 25)))), (ad 26, .inr (4, [.ref (ad 27)])), (ad 27, .inl (aC 1, 20, .inr (.inl (J 27)))), (ad 28, .inr (6, [.int ((I 28) 0), .ref (ad 29), .int ((I 28) 2), .ref (ad 30), .int ((I 28) 4), .long ((J 28) 5), .int ((I 28) 6), .int ((I 28) 7), .int ((I 28) 8), .ref (ad 31), .ref (ad 32), .ref (ad 33), .ref (ad 34), .ref (ad 35), .ref (ad 36), .int ((I 28) 15), .int ((I 28) 16), .ref (ad 37), .ref (ad 38), .ref (ad 39), .int ((I 28) 20), .ref (ad 40), .ref (ad 41), .ref (ad 42), .ref (ad 43), .int ((I 28) 25), .ref (ad 44)])), (ad 29, .inl (aC 2, 69, .inl (I 29))), (ad 30, .inl (aC 1, 101, .inr (.inl (J 30)))), (ad 31, .inl (aC 0, 8, .inl (I 31))), (ad 32, .inl (aC 0, 8, .inl (I 32))), (ad 33, .inl (aC 0, 512, .inl (I 33))), (ad 34, .inl (aC 0, 8, .inl (I 34))), (ad 35, .inl (aC 1, 8, .inr (.inl (J 35)))), (ad 36, .inl (aC 2, 8, .inl (I 36))), (ad 37, .inl (aC 2, 101, .inl (I 37))), (ad 38, .inl (aC 0, 160, .inl (I 38))), (ad 39, .inl (aC 0, 101, .inl (I 39))), (ad 40, .inl (aC 0, 16, .inl (I 40))), (ad 41, .inl (aC 2, 16, .inl (I 41))), (ad 42, .inl (aC 1, 16, .inr (.inl (J 42)))), (ad 43, .inl (aC 2, 16, .inl (I 43))), (ad 44, .inl (aC 1, 16, .inr (.inl (J 44))))] := by
  have h5 : am_cell ad aC 5 (I 5) (J 5) = .inl (aC 3, 8, .inr (.inr (.inr (.inr (va_up (va_up (va_up (va_up (va_up (va_up (va_up (va_up (fun _ => none) 0 (some (ad 6))) 1 (some (ad 7))) 2 (some (ad 8))) 3 (some (ad 9))) 4 (some (ad 10))) 5 (some (ad 11))) 6 (some (ad 12))) 7 (some (ad 13))))))) := congrArg (fun f => (.inl (aC 3, 8, .inr (.inr (.inr (.inr f)))) : va_E)) (am_e8 ad)
  have h23 : am_cell ad aC 23 (I 23) (J 23) = .inl (aC 4, 2, .inr (.inr (.inr (.inr (va_up (va_up (fun _ => none) 0 (some (ad 24))) 1 (some (ad 26))))))) := congrArg (fun f => (.inl (aC 4, 2, .inr (.inr (.inr (.inr f)))) : va_E)) (am_e2 ad)
  show [(ad 0, am_cell ad aC 0 (I 0) (J 0)), (ad 1, am_cell ad aC 1 (I 1) (J 1)), (ad 2, am_cell ad aC 2 (I 2) (J 2)), (ad 3, am_cell ad aC 3 (I 3) (J 3)), (ad 4, am_cell ad aC 4 (I 4) (J 4)), (ad 5, am_cell ad aC 5 (I 5) (J 5)), (ad 6, am_cell ad aC 6 (I 6) (J 6)), (ad 7, am_cell ad aC 7 (I 7) (J 7)), (ad 8, am_cell ad aC 8 (I 8) (J 8)), (ad 9, am_cell ad aC 9 (I 9) (J 9)), (ad 10, am_cell ad aC 10 (I 10) (J 10)), (ad 11, am_cell ad aC 11 (I 11) (J 11)), (ad 12, am_cell ad aC 12 (I 12) (J 12)), (ad 13, am_cell ad aC 13 (I 13) (J 13)), (ad 14, am_cell ad aC 14 (I 14) (J 14)), (ad 15, am_cell ad aC 15 (I 15) (J 15)), (ad 16, am_cell ad aC 16 (I 16) (J 16)), (ad 17, am_cell ad aC 17 (I 17) (J 17)), (ad 18, am_cell ad aC 18 (I 18) (J 18)), (ad 19, am_cell ad aC 19 (I 19) (J 19)), (ad 20, am_cell ad aC 20 (I 20) (J 20)), (ad 21, am_cell ad aC 21 (I 21) (J 21)), (ad 22, am_cell ad aC 22 (I 22) (J 22)), (ad 23, am_cell ad aC 23 (I 23) (J 23)), (ad 24, am_cell ad aC 24 (I 24) (J 24)), (ad 25, am_cell ad aC 25 (I 25) (J 25)), (ad 26, am_cell ad aC 26 (I 26) (J 26)), (ad 27, am_cell ad aC 27 (I 27) (J 27)), (ad 28, am_cell ad aC 28 (I 28) (J 28)), (ad 29, am_cell ad aC 29 (I 29) (J 29)), (ad 30, am_cell ad aC 30 (I 30) (J 30)), (ad 31, am_cell ad aC 31 (I 31) (J 31)), (ad 32, am_cell ad aC 32 (I 32) (J 32)), (ad 33, am_cell ad aC 33 (I 33) (J 33)), (ad 34, am_cell ad aC 34 (I 34) (J 34)), (ad 35, am_cell ad aC 35 (I 35) (J 35)), (ad 36, am_cell ad aC 36 (I 36) (J 36)), (ad 37, am_cell ad aC 37 (I 37) (J 37)), (ad 38, am_cell ad aC 38 (I 38) (J 38)), (ad 39, am_cell ad aC 39 (I 39) (J 39)), (ad 40, am_cell ad aC 40 (I 40) (J 40)), (ad 41, am_cell ad aC 41 (I 41) (J 41)), (ad 42, am_cell ad aC 42 (I 42) (J 42)), (ad 43, am_cell ad aC 43 (I 43) (J 43)), (ad 44, am_cell ad aC 44 (I 44) (J 44))] = _
  rw [h5, h23]
  rfl
def am_I0 : am_MI := fun k f => if k = 0 ∧ f = 4 then 1 else if k = 0 ∧ f = 5 then (-1) else if k = 28 ∧ f = 6 then (-1) else if k = 28 ∧ f = 7 then 1 else 0
def am_J0 : am_MJ := fun _ _ => 0
set_option maxRecDepth 20000 in
set_option maxHeartbeats 4000000 in
theorem u_M_init {l : Launch} {D : va_G} {aC : Nat → ClassId} (hlt : l.stackTraces = false) {b0 b1 b2 b3 b4 b5 b6 b7 b8 b9 b10 b11 b12 b13 b14 b15 b16 b17 b18 b19 b20 b21 b22 b23 b24 b25 b26 b27 a : Nat} {K : am_MI → am_MJ → Prop} (h : w_M_forget am_I0 am_J0 K (fun _ _ _ => False)) : am_c l D aC yM_init (.code yM_init cM_init 1 none) (am_rc 3 16 1164) 16 1164 [.ref a] [(b0, .inr (0, [.ref b1, .ref b4, .ref b17, .ref b23, .int 1, .int (-1), .int 0, .int 0])), (b1, .inr (1, [.ref b2, .ref b3, .int 0, .int 0, .long 0])), (b2, .inl (aC 1, 101, .inr (.inl (fun _ => 0)))), (b3, .inl (aC 2, 69, .inl (fun _ => 0))), (b4, .inr (2, [.ref b5, .ref b14, .ref b15, .ref b16])), (b5, .inl (aC 3, 8, .inr (.inr (.inr (.inr (va_up (va_up (va_up (va_up (va_up (va_up (va_up (va_up (fun _ => none) 0 (some b6)) 1 (some b7)) 2 (some b8)) 3 (some b9)) 4 (some b10)) 5 (some b11)) 6 (some b12)) 7 (some b13))))))), (b6, .inr (3, [.int 0, .int 0, .int 0, .int 0, .long 0, .int 0])), (b7, .inr (3, [.int 0, .int 0, .int 0, .int 0, .long 0, .int 0])), (b8, .inr (3, [.int 0, .int 0, .int 0, .int 0, .long 0, .int 0])), (b9, .inr (3, [.int 0, .int 0, .int 0, .int 0, .long 0, .int 0])), (b10, .inr (3, [.int 0, .int 0, .int 0, .int 0, .long 0, .int 0])), (b11, .inr (3, [.int 0, .int 0, .int 0, .int 0, .long 0, .int 0])), (b12, .inr (3, [.int 0, .int 0, .int 0, .int 0, .long 0, .int 0])), (b13, .inr (3, [.int 0, .int 0, .int 0, .int 0, .long 0, .int 0])), (b14, .inl (aC 0, 101, .inl (fun _ => 0))), (b15, .inl (aC 2, 101, .inl (fun _ => 0))), (b16, .inl (aC 2, 101, .inl (fun _ => 0))), (b17, .inr (5, [.ref b18, .ref b19, .ref b20, .ref b21, .ref b22, .int 0, .int 0])), (b18, .inl (aC 0, 16, .inl (fun _ => 0))), (b19, .inl (aC 2, 16, .inl (fun _ => 0))), (b20, .inl (aC 1, 16, .inr (.inl (fun _ => 0)))), (b21, .inl (aC 2, 16, .inl (fun _ => 0))), (b22, .inl (aC 1, 16, .inr (.inl (fun _ => 0)))), (b23, .inl (aC 4, 2, .inr (.inr (.inr (.inr (va_up (va_up (fun _ => none) 0 (some b24)) 1 (some b26))))))), (b24, .inr (4, [.ref b25])), (b25, .inl (aC 1, 20, .inr (.inl (fun _ => 0)))), (b26, .inr (4, [.ref b27])), (b27, .inl (aC 1, 20, .inr (.inl (fun _ => 0)))), (a, .inr (6, [.int 0, .null, .int 0, .null, .int 0, .long 0, .int 0, .int 0, .int 0, .null, .null, .null, .null, .null, .null, .int 0, .int 0, .null, .null, .null, .int 0, .null, .null, .null, .null, .int 0, .null]))] (fun v ws1 => v = none ∧ ∃ (ad : Nat → Nat) (I : am_MI) (J : am_MJ), ws1 = am_v ad aC I J ∧ K I J ∧ ad 0 = b0 ∧ ad 28 = a) (fun _ _ => False) := by
  refine am_of (ini := true) hlt (by decide +kernel) (Nat.le_of_ble_eq_true rfl) (fun _ => rfl) ?_
  show am l D aC "BubbleBoxModel" cM_init 1 none true [] am_G0 (am_rc 3 16 1164) 16 1164 0 0 0 [(0, .ref a)] [] _ _ _
  refine am_eqW (am_wd0 (q := 28) (c := (a, .inr (6, [.int 0, .null, .int 0, .null, .int 0, .long 0, .int 0, .int 0, .int 0, .null, .null, .null, .null, .null, .null, .int 0, .int 0, .null, .null, .null, .int 0, .null, .null, .null, .null, .int 0, .null]))) rfl) ?_
  refine am_aload_n 0 dM_init_0 rfl rfl ?_
  refine am_objInit dM_init_1 (am_tw kw_650 rfl) (am_tw kw_21 rfl) (am_tw (show Cond.code objectInit ⟨#[0xb1]⟩ 1 none ∈ tables_1 from kw_22) rfl) (Nat.le_of_ble_eq_true rfl) (Nat.le_of_ble_eq_true rfl) ?_
  refine am_aload_n 0 dM_init_4 rfl rfl ?_
  refine am_bipush (v := 69) dM_init_5 (by decide) ?_
  refine am_newa2 (N := 69) dM_init_7 (am_tw kw_50 rfl) (by decide) (by decide) (by decide) ⟨Nat.le_of_ble_eq_true rfl, Nat.le_of_ble_eq_true rfl⟩ (fun p1 => ?_)
  refine am_eqW (am_wdA (T2 := [(p1, .inl (aC 2, 69, .inl (fun _ => 0)))]) rfl) ?_
  refine am_putF (C := "BubbleBoxModel") (T := am_FM) (N := 27) (fs := [.int 0, .null, .int 0, .null, .int 0, .long 0, .int 0, .int 0, .int 0, .null, .null, .null, .null, .null, .null, .int 0, .int 0, .null, .null, .null, .int 0, .null, .null, .null, .null, .int 0, .null]) (v := .ref p1) 28 6 1 dM_init_9 am_hinM (am_wdQ (q := 28) (c0 := (a, .inr (6, [.int 0, .null, .int 0, .null, .int 0, .long 0, .int 0, .int 0, .int 0, .null, .null, .null, .null, .null, .null, .int 0, .int 0, .null, .null, .null, .int 0, .null, .null, .null, .null, .int 0, .null]))) rfl) rfl (by decide) am_tM am_tkM am_nM rfl (am_tw kw_660 rfl) rfl rfl rfl rfl rfl (Nat.le_of_ble_eq_true rfl) (am_wdS (c2 := (a, .inr (6, [.int 0, .ref p1, .int 0, .null, .int 0, .long 0, .int 0, .int 0, .int 0, .null, .null, .null, .null, .null, .null, .int 0, .int 0, .null, .null, .null, .int 0, .null, .null, .null, .null, .int 0, .null]))) (c0 := (a, .inr (6, [.int 0, .null, .int 0, .null, .int 0, .long 0, .int 0, .int 0, .int 0, .null, .null, .null, .null, .null, .null, .int 0, .int 0, .null, .null, .null, .int 0, .null, .null, .null, .null, .int 0, .null]))) rfl) ?_
  refine am_aload_n 0 dM_init_12 rfl rfl ?_
  refine am_bipush (v := 101) dM_init_13 (by decide) ?_
  refine am_newa1 (N := 101) dM_init_15 (am_tw kw_49 rfl) (by decide) (by decide) (by decide) ⟨Nat.le_of_ble_eq_true rfl, Nat.le_of_ble_eq_true rfl⟩ (fun p2 => ?_)
  refine am_eqW (am_wdA (T2 := [(p1, .inl (aC 2, 69, .inl (fun _ => 0))), (p2, .inl (aC 1, 101, .inr (.inl (fun _ => 0))))]) rfl) ?_
  refine am_putF (C := "BubbleBoxModel") (T := am_FM) (N := 27) (fs := [.int 0, .ref p1, .int 0, .null, .int 0, .long 0, .int 0, .int 0, .int 0, .null, .null, .null, .null, .null, .null, .int 0, .int 0, .null, .null, .null, .int 0, .null, .null, .null, .null, .int 0, .null]) (v := .ref p2) 28 6 3 dM_init_17 am_hinM (am_wdQ (q := 28) (c0 := (a, .inr (6, [.int 0, .null, .int 0, .null, .int 0, .long 0, .int 0, .int 0, .int 0, .null, .null, .null, .null, .null, .null, .int 0, .int 0, .null, .null, .null, .int 0, .null, .null, .null, .null, .int 0, .null]))) rfl) rfl (by decide) am_tM am_tkM am_nM rfl (am_tw kw_662 rfl) rfl rfl rfl rfl rfl (Nat.le_of_ble_eq_true rfl) (am_wdS (c2 := (a, .inr (6, [.int 0, .ref p1, .int 0, .ref p2, .int 0, .long 0, .int 0, .int 0, .int 0, .null, .null, .null, .null, .null, .null, .int 0, .int 0, .null, .null, .null, .int 0, .null, .null, .null, .null, .int 0, .null]))) (c0 := (a, .inr (6, [.int 0, .null, .int 0, .null, .int 0, .long 0, .int 0, .int 0, .int 0, .null, .null, .null, .null, .null, .null, .int 0, .int 0, .null, .null, .null, .int 0, .null, .null, .null, .null, .int 0, .null]))) rfl) ?_
  refine am_aload_n 0 dM_init_20 rfl rfl ?_
  refine am_iconst (v := (-1)) dM_init_21 (by decide) ?_
  refine am_put (C := "BubbleBoxModel") (T := am_FM) (N := 27) (fs := [.int 0, .ref p1, .int 0, .ref p2, .int 0, .long 0, .int 0, .int 0, .int 0, .null, .null, .null, .null, .null, .null, .int 0, .int 0, .null, .null, .null, .int 0, .null, .null, .null, .null, .int 0, .null]) (v := .int (-1)) 28 6 6 dM_init_22 am_hinM (am_wdQ (q := 28) (c0 := (a, .inr (6, [.int 0, .null, .int 0, .null, .int 0, .long 0, .int 0, .int 0, .int 0, .null, .null, .null, .null, .null, .null, .int 0, .int 0, .null, .null, .null, .int 0, .null, .null, .null, .null, .int 0, .null]))) rfl) rfl (by decide) am_tM am_tkM am_nM rfl (am_tw kw_665 rfl) rfl rfl rfl (Nat.le_of_ble_eq_true rfl) (am_wdS (c2 := (a, .inr (6, [.int 0, .ref p1, .int 0, .ref p2, .int 0, .long 0, .int (-1), .int 0, .int 0, .null, .null, .null, .null, .null, .null, .int 0, .int 0, .null, .null, .null, .int 0, .null, .null, .null, .null, .int 0, .null]))) (c0 := (a, .inr (6, [.int 0, .null, .int 0, .null, .int 0, .long 0, .int 0, .int 0, .int 0, .null, .null, .null, .null, .null, .null, .int 0, .int 0, .null, .null, .null, .int 0, .null, .null, .null, .null, .int 0, .null]))) rfl) ?_
  refine am_aload_n 0 dM_init_25 rfl rfl ?_
  refine am_iconst (v := 1) dM_init_26 (by decide) ?_
  refine am_put (C := "BubbleBoxModel") (T := am_FM) (N := 27) (fs := [.int 0, .ref p1, .int 0, .ref p2, .int 0, .long 0, .int (-1), .int 0, .int 0, .null, .null, .null, .null, .null, .null, .int 0, .int 0, .null, .null, .null, .int 0, .null, .null, .null, .null, .int 0, .null]) (v := .int 1) 28 6 7 dM_init_27 am_hinM (am_wdQ (q := 28) (c0 := (a, .inr (6, [.int 0, .null, .int 0, .null, .int 0, .long 0, .int 0, .int 0, .int 0, .null, .null, .null, .null, .null, .null, .int 0, .int 0, .null, .null, .null, .int 0, .null, .null, .null, .null, .int 0, .null]))) rfl) rfl (by decide) am_tM am_tkM am_nM rfl (am_tw kw_666 rfl) rfl rfl rfl (Nat.le_of_ble_eq_true rfl) (am_wdS (c2 := (a, .inr (6, [.int 0, .ref p1, .int 0, .ref p2, .int 0, .long 0, .int (-1), .int 1, .int 0, .null, .null, .null, .null, .null, .null, .int 0, .int 0, .null, .null, .null, .int 0, .null, .null, .null, .null, .int 0, .null]))) (c0 := (a, .inr (6, [.int 0, .null, .int 0, .null, .int 0, .long 0, .int 0, .int 0, .int 0, .null, .null, .null, .null, .null, .null, .int 0, .int 0, .null, .null, .null, .int 0, .null, .null, .null, .null, .int 0, .null]))) rfl) ?_
  refine am_aload_n 0 dM_init_30 rfl rfl ?_
  refine am_bipush (v := 8) dM_init_31 (by decide) ?_
  refine am_newa0 (N := 8) dM_init_33 (am_tw kw_107 rfl) (by decide) (by decide) (by decide) ⟨Nat.le_of_ble_eq_true rfl, Nat.le_of_ble_eq_true rfl⟩ (fun p3 => ?_)
  refine am_eqW (am_wdA (T2 := [(p1, .inl (aC 2, 69, .inl (fun _ => 0))), (p2, .inl (aC 1, 101, .inr (.inl (fun _ => 0)))), (p3, .inl (aC 0, 8, .inl (fun _ => 0)))]) rfl) ?_
  refine am_putF (C := "BubbleBoxModel") (T := am_FM) (N := 27) (fs := [.int 0, .ref p1, .int 0, .ref p2, .int 0, .long 0, .int (-1), .int 1, .int 0, .null, .null, .null, .null, .null, .null, .int 0, .int 0, .null, .null, .null, .int 0, .null, .null, .null, .null, .int 0, .null]) (v := .ref p3) 28 6 9 dM_init_35 am_hinM (am_wdQ (q := 28) (c0 := (a, .inr (6, [.int 0, .null, .int 0, .null, .int 0, .long 0, .int 0, .int 0, .int 0, .null, .null, .null, .null, .null, .null, .int 0, .int 0, .null, .null, .null, .int 0, .null, .null, .null, .null, .int 0, .null]))) rfl) rfl (by decide) am_tM am_tkM am_nM rfl (am_tw kw_668 rfl) rfl rfl rfl rfl rfl (Nat.le_of_ble_eq_true rfl) (am_wdS (c2 := (a, .inr (6, [.int 0, .ref p1, .int 0, .ref p2, .int 0, .long 0, .int (-1), .int 1, .int 0, .ref p3, .null, .null, .null, .null, .null, .int 0, .int 0, .null, .null, .null, .int 0, .null, .null, .null, .null, .int 0, .null]))) (c0 := (a, .inr (6, [.int 0, .null, .int 0, .null, .int 0, .long 0, .int 0, .int 0, .int 0, .null, .null, .null, .null, .null, .null, .int 0, .int 0, .null, .null, .null, .int 0, .null, .null, .null, .null, .int 0, .null]))) rfl) ?_
  refine am_aload_n 0 dM_init_38 rfl rfl ?_
  refine am_bipush (v := 8) dM_init_39 (by decide) ?_
  refine am_newa0 (N := 8) dM_init_41 (am_tw kw_107 rfl) (by decide) (by decide) (by decide) ⟨Nat.le_of_ble_eq_true rfl, Nat.le_of_ble_eq_true rfl⟩ (fun p4 => ?_)
  refine am_eqW (am_wdA (T2 := [(p1, .inl (aC 2, 69, .inl (fun _ => 0))), (p2, .inl (aC 1, 101, .inr (.inl (fun _ => 0)))), (p3, .inl (aC 0, 8, .inl (fun _ => 0))), (p4, .inl (aC 0, 8, .inl (fun _ => 0)))]) rfl) ?_
  refine am_putF (C := "BubbleBoxModel") (T := am_FM) (N := 27) (fs := [.int 0, .ref p1, .int 0, .ref p2, .int 0, .long 0, .int (-1), .int 1, .int 0, .ref p3, .null, .null, .null, .null, .null, .int 0, .int 0, .null, .null, .null, .int 0, .null, .null, .null, .null, .int 0, .null]) (v := .ref p4) 28 6 10 dM_init_43 am_hinM (am_wdQ (q := 28) (c0 := (a, .inr (6, [.int 0, .null, .int 0, .null, .int 0, .long 0, .int 0, .int 0, .int 0, .null, .null, .null, .null, .null, .null, .int 0, .int 0, .null, .null, .null, .int 0, .null, .null, .null, .null, .int 0, .null]))) rfl) rfl (by decide) am_tM am_tkM am_nM rfl (am_tw kw_669 rfl) rfl rfl rfl rfl rfl (Nat.le_of_ble_eq_true rfl) (am_wdS (c2 := (a, .inr (6, [.int 0, .ref p1, .int 0, .ref p2, .int 0, .long 0, .int (-1), .int 1, .int 0, .ref p3, .ref p4, .null, .null, .null, .null, .int 0, .int 0, .null, .null, .null, .int 0, .null, .null, .null, .null, .int 0, .null]))) (c0 := (a, .inr (6, [.int 0, .null, .int 0, .null, .int 0, .long 0, .int 0, .int 0, .int 0, .null, .null, .null, .null, .null, .null, .int 0, .int 0, .null, .null, .null, .int 0, .null, .null, .null, .null, .int 0, .null]))) rfl) ?_
  refine am_aload_n 0 dM_init_46 rfl rfl ?_
  refine am_sipush (v := 512) dM_init_47 (by decide) ?_
  refine am_newa0 (N := 512) dM_init_50 (am_tw kw_107 rfl) (by decide) (by decide) (by decide) ⟨Nat.le_of_ble_eq_true rfl, Nat.le_of_ble_eq_true rfl⟩ (fun p5 => ?_)
  refine am_eqW (am_wdA (T2 := [(p1, .inl (aC 2, 69, .inl (fun _ => 0))), (p2, .inl (aC 1, 101, .inr (.inl (fun _ => 0)))), (p3, .inl (aC 0, 8, .inl (fun _ => 0))), (p4, .inl (aC 0, 8, .inl (fun _ => 0))), (p5, .inl (aC 0, 512, .inl (fun _ => 0)))]) rfl) ?_
  refine am_putF (C := "BubbleBoxModel") (T := am_FM) (N := 27) (fs := [.int 0, .ref p1, .int 0, .ref p2, .int 0, .long 0, .int (-1), .int 1, .int 0, .ref p3, .ref p4, .null, .null, .null, .null, .int 0, .int 0, .null, .null, .null, .int 0, .null, .null, .null, .null, .int 0, .null]) (v := .ref p5) 28 6 11 dM_init_52 am_hinM (am_wdQ (q := 28) (c0 := (a, .inr (6, [.int 0, .null, .int 0, .null, .int 0, .long 0, .int 0, .int 0, .int 0, .null, .null, .null, .null, .null, .null, .int 0, .int 0, .null, .null, .null, .int 0, .null, .null, .null, .null, .int 0, .null]))) rfl) rfl (by decide) am_tM am_tkM am_nM rfl (am_tw kw_670 rfl) rfl rfl rfl rfl rfl (Nat.le_of_ble_eq_true rfl) (am_wdS (c2 := (a, .inr (6, [.int 0, .ref p1, .int 0, .ref p2, .int 0, .long 0, .int (-1), .int 1, .int 0, .ref p3, .ref p4, .ref p5, .null, .null, .null, .int 0, .int 0, .null, .null, .null, .int 0, .null, .null, .null, .null, .int 0, .null]))) (c0 := (a, .inr (6, [.int 0, .null, .int 0, .null, .int 0, .long 0, .int 0, .int 0, .int 0, .null, .null, .null, .null, .null, .null, .int 0, .int 0, .null, .null, .null, .int 0, .null, .null, .null, .null, .int 0, .null]))) rfl) ?_
  refine am_aload_n 0 dM_init_55 rfl rfl ?_
  refine am_bipush (v := 8) dM_init_56 (by decide) ?_
  refine am_newa0 (N := 8) dM_init_58 (am_tw kw_107 rfl) (by decide) (by decide) (by decide) ⟨Nat.le_of_ble_eq_true rfl, Nat.le_of_ble_eq_true rfl⟩ (fun p6 => ?_)
  refine am_eqW (am_wdA (T2 := [(p1, .inl (aC 2, 69, .inl (fun _ => 0))), (p2, .inl (aC 1, 101, .inr (.inl (fun _ => 0)))), (p3, .inl (aC 0, 8, .inl (fun _ => 0))), (p4, .inl (aC 0, 8, .inl (fun _ => 0))), (p5, .inl (aC 0, 512, .inl (fun _ => 0))), (p6, .inl (aC 0, 8, .inl (fun _ => 0)))]) rfl) ?_
  refine am_putF (C := "BubbleBoxModel") (T := am_FM) (N := 27) (fs := [.int 0, .ref p1, .int 0, .ref p2, .int 0, .long 0, .int (-1), .int 1, .int 0, .ref p3, .ref p4, .ref p5, .null, .null, .null, .int 0, .int 0, .null, .null, .null, .int 0, .null, .null, .null, .null, .int 0, .null]) (v := .ref p6) 28 6 12 dM_init_60 am_hinM (am_wdQ (q := 28) (c0 := (a, .inr (6, [.int 0, .null, .int 0, .null, .int 0, .long 0, .int 0, .int 0, .int 0, .null, .null, .null, .null, .null, .null, .int 0, .int 0, .null, .null, .null, .int 0, .null, .null, .null, .null, .int 0, .null]))) rfl) rfl (by decide) am_tM am_tkM am_nM rfl (am_tw kw_671 rfl) rfl rfl rfl rfl rfl (Nat.le_of_ble_eq_true rfl) (am_wdS (c2 := (a, .inr (6, [.int 0, .ref p1, .int 0, .ref p2, .int 0, .long 0, .int (-1), .int 1, .int 0, .ref p3, .ref p4, .ref p5, .ref p6, .null, .null, .int 0, .int 0, .null, .null, .null, .int 0, .null, .null, .null, .null, .int 0, .null]))) (c0 := (a, .inr (6, [.int 0, .null, .int 0, .null, .int 0, .long 0, .int 0, .int 0, .int 0, .null, .null, .null, .null, .null, .null, .int 0, .int 0, .null, .null, .null, .int 0, .null, .null, .null, .null, .int 0, .null]))) rfl) ?_
  refine am_aload_n 0 dM_init_63 rfl rfl ?_
  refine am_bipush (v := 8) dM_init_64 (by decide) ?_
  refine am_newa1 (N := 8) dM_init_66 (am_tw kw_49 rfl) (by decide) (by decide) (by decide) ⟨Nat.le_of_ble_eq_true rfl, Nat.le_of_ble_eq_true rfl⟩ (fun p7 => ?_)
  refine am_eqW (am_wdA (T2 := [(p1, .inl (aC 2, 69, .inl (fun _ => 0))), (p2, .inl (aC 1, 101, .inr (.inl (fun _ => 0)))), (p3, .inl (aC 0, 8, .inl (fun _ => 0))), (p4, .inl (aC 0, 8, .inl (fun _ => 0))), (p5, .inl (aC 0, 512, .inl (fun _ => 0))), (p6, .inl (aC 0, 8, .inl (fun _ => 0))), (p7, .inl (aC 1, 8, .inr (.inl (fun _ => 0))))]) rfl) ?_
  refine am_putF (C := "BubbleBoxModel") (T := am_FM) (N := 27) (fs := [.int 0, .ref p1, .int 0, .ref p2, .int 0, .long 0, .int (-1), .int 1, .int 0, .ref p3, .ref p4, .ref p5, .ref p6, .null, .null, .int 0, .int 0, .null, .null, .null, .int 0, .null, .null, .null, .null, .int 0, .null]) (v := .ref p7) 28 6 13 dM_init_68 am_hinM (am_wdQ (q := 28) (c0 := (a, .inr (6, [.int 0, .null, .int 0, .null, .int 0, .long 0, .int 0, .int 0, .int 0, .null, .null, .null, .null, .null, .null, .int 0, .int 0, .null, .null, .null, .int 0, .null, .null, .null, .null, .int 0, .null]))) rfl) rfl (by decide) am_tM am_tkM am_nM rfl (am_tw kw_672 rfl) rfl rfl rfl rfl rfl (Nat.le_of_ble_eq_true rfl) (am_wdS (c2 := (a, .inr (6, [.int 0, .ref p1, .int 0, .ref p2, .int 0, .long 0, .int (-1), .int 1, .int 0, .ref p3, .ref p4, .ref p5, .ref p6, .ref p7, .null, .int 0, .int 0, .null, .null, .null, .int 0, .null, .null, .null, .null, .int 0, .null]))) (c0 := (a, .inr (6, [.int 0, .null, .int 0, .null, .int 0, .long 0, .int 0, .int 0, .int 0, .null, .null, .null, .null, .null, .null, .int 0, .int 0, .null, .null, .null, .int 0, .null, .null, .null, .null, .int 0, .null]))) rfl) ?_
  refine am_aload_n 0 dM_init_71 rfl rfl ?_
  refine am_bipush (v := 8) dM_init_72 (by decide) ?_
  refine am_newa2 (N := 8) dM_init_74 (am_tw kw_50 rfl) (by decide) (by decide) (by decide) ⟨Nat.le_of_ble_eq_true rfl, Nat.le_of_ble_eq_true rfl⟩ (fun p8 => ?_)
  refine am_eqW (am_wdA (T2 := [(p1, .inl (aC 2, 69, .inl (fun _ => 0))), (p2, .inl (aC 1, 101, .inr (.inl (fun _ => 0)))), (p3, .inl (aC 0, 8, .inl (fun _ => 0))), (p4, .inl (aC 0, 8, .inl (fun _ => 0))), (p5, .inl (aC 0, 512, .inl (fun _ => 0))), (p6, .inl (aC 0, 8, .inl (fun _ => 0))), (p7, .inl (aC 1, 8, .inr (.inl (fun _ => 0)))), (p8, .inl (aC 2, 8, .inl (fun _ => 0)))]) rfl) ?_
  refine am_putF (C := "BubbleBoxModel") (T := am_FM) (N := 27) (fs := [.int 0, .ref p1, .int 0, .ref p2, .int 0, .long 0, .int (-1), .int 1, .int 0, .ref p3, .ref p4, .ref p5, .ref p6, .ref p7, .null, .int 0, .int 0, .null, .null, .null, .int 0, .null, .null, .null, .null, .int 0, .null]) (v := .ref p8) 28 6 14 dM_init_76 am_hinM (am_wdQ (q := 28) (c0 := (a, .inr (6, [.int 0, .null, .int 0, .null, .int 0, .long 0, .int 0, .int 0, .int 0, .null, .null, .null, .null, .null, .null, .int 0, .int 0, .null, .null, .null, .int 0, .null, .null, .null, .null, .int 0, .null]))) rfl) rfl (by decide) am_tM am_tkM am_nM rfl (am_tw kw_673 rfl) rfl rfl rfl rfl rfl (Nat.le_of_ble_eq_true rfl) (am_wdS (c2 := (a, .inr (6, [.int 0, .ref p1, .int 0, .ref p2, .int 0, .long 0, .int (-1), .int 1, .int 0, .ref p3, .ref p4, .ref p5, .ref p6, .ref p7, .ref p8, .int 0, .int 0, .null, .null, .null, .int 0, .null, .null, .null, .null, .int 0, .null]))) (c0 := (a, .inr (6, [.int 0, .null, .int 0, .null, .int 0, .long 0, .int 0, .int 0, .int 0, .null, .null, .null, .null, .null, .null, .int 0, .int 0, .null, .null, .null, .int 0, .null, .null, .null, .null, .int 0, .null]))) rfl) ?_
  refine am_aload_n 0 dM_init_79 rfl rfl ?_
  refine am_bipush (v := 101) dM_init_80 (by decide) ?_
  refine am_newa2 (N := 101) dM_init_82 (am_tw kw_50 rfl) (by decide) (by decide) (by decide) ⟨Nat.le_of_ble_eq_true rfl, Nat.le_of_ble_eq_true rfl⟩ (fun p9 => ?_)
  refine am_eqW (am_wdA (T2 := [(p1, .inl (aC 2, 69, .inl (fun _ => 0))), (p2, .inl (aC 1, 101, .inr (.inl (fun _ => 0)))), (p3, .inl (aC 0, 8, .inl (fun _ => 0))), (p4, .inl (aC 0, 8, .inl (fun _ => 0))), (p5, .inl (aC 0, 512, .inl (fun _ => 0))), (p6, .inl (aC 0, 8, .inl (fun _ => 0))), (p7, .inl (aC 1, 8, .inr (.inl (fun _ => 0)))), (p8, .inl (aC 2, 8, .inl (fun _ => 0))), (p9, .inl (aC 2, 101, .inl (fun _ => 0)))]) rfl) ?_
  refine am_putF (C := "BubbleBoxModel") (T := am_FM) (N := 27) (fs := [.int 0, .ref p1, .int 0, .ref p2, .int 0, .long 0, .int (-1), .int 1, .int 0, .ref p3, .ref p4, .ref p5, .ref p6, .ref p7, .ref p8, .int 0, .int 0, .null, .null, .null, .int 0, .null, .null, .null, .null, .int 0, .null]) (v := .ref p9) 28 6 17 dM_init_84 am_hinM (am_wdQ (q := 28) (c0 := (a, .inr (6, [.int 0, .null, .int 0, .null, .int 0, .long 0, .int 0, .int 0, .int 0, .null, .null, .null, .null, .null, .null, .int 0, .int 0, .null, .null, .null, .int 0, .null, .null, .null, .null, .int 0, .null]))) rfl) rfl (by decide) am_tM am_tkM am_nM rfl (am_tw kw_676 rfl) rfl rfl rfl rfl rfl (Nat.le_of_ble_eq_true rfl) (am_wdS (c2 := (a, .inr (6, [.int 0, .ref p1, .int 0, .ref p2, .int 0, .long 0, .int (-1), .int 1, .int 0, .ref p3, .ref p4, .ref p5, .ref p6, .ref p7, .ref p8, .int 0, .int 0, .ref p9, .null, .null, .int 0, .null, .null, .null, .null, .int 0, .null]))) (c0 := (a, .inr (6, [.int 0, .null, .int 0, .null, .int 0, .long 0, .int 0, .int 0, .int 0, .null, .null, .null, .null, .null, .null, .int 0, .int 0, .null, .null, .null, .int 0, .null, .null, .null, .null, .int 0, .null]))) rfl) ?_
  refine am_aload_n 0 dM_init_87 rfl rfl ?_
  refine am_sipush (v := 160) dM_init_88 (by decide) ?_
  refine am_newa0 (N := 160) dM_init_91 (am_tw kw_107 rfl) (by decide) (by decide) (by decide) ⟨Nat.le_of_ble_eq_true rfl, Nat.le_of_ble_eq_true rfl⟩ (fun p10 => ?_)
  refine am_eqW (am_wdA (T2 := [(p1, .inl (aC 2, 69, .inl (fun _ => 0))), (p2, .inl (aC 1, 101, .inr (.inl (fun _ => 0)))), (p3, .inl (aC 0, 8, .inl (fun _ => 0))), (p4, .inl (aC 0, 8, .inl (fun _ => 0))), (p5, .inl (aC 0, 512, .inl (fun _ => 0))), (p6, .inl (aC 0, 8, .inl (fun _ => 0))), (p7, .inl (aC 1, 8, .inr (.inl (fun _ => 0)))), (p8, .inl (aC 2, 8, .inl (fun _ => 0))), (p9, .inl (aC 2, 101, .inl (fun _ => 0))), (p10, .inl (aC 0, 160, .inl (fun _ => 0)))]) rfl) ?_
  refine am_putF (C := "BubbleBoxModel") (T := am_FM) (N := 27) (fs := [.int 0, .ref p1, .int 0, .ref p2, .int 0, .long 0, .int (-1), .int 1, .int 0, .ref p3, .ref p4, .ref p5, .ref p6, .ref p7, .ref p8, .int 0, .int 0, .ref p9, .null, .null, .int 0, .null, .null, .null, .null, .int 0, .null]) (v := .ref p10) 28 6 18 dM_init_93 am_hinM (am_wdQ (q := 28) (c0 := (a, .inr (6, [.int 0, .null, .int 0, .null, .int 0, .long 0, .int 0, .int 0, .int 0, .null, .null, .null, .null, .null, .null, .int 0, .int 0, .null, .null, .null, .int 0, .null, .null, .null, .null, .int 0, .null]))) rfl) rfl (by decide) am_tM am_tkM am_nM rfl (am_tw kw_677 rfl) rfl rfl rfl rfl rfl (Nat.le_of_ble_eq_true rfl) (am_wdS (c2 := (a, .inr (6, [.int 0, .ref p1, .int 0, .ref p2, .int 0, .long 0, .int (-1), .int 1, .int 0, .ref p3, .ref p4, .ref p5, .ref p6, .ref p7, .ref p8, .int 0, .int 0, .ref p9, .ref p10, .null, .int 0, .null, .null, .null, .null, .int 0, .null]))) (c0 := (a, .inr (6, [.int 0, .null, .int 0, .null, .int 0, .long 0, .int 0, .int 0, .int 0, .null, .null, .null, .null, .null, .null, .int 0, .int 0, .null, .null, .null, .int 0, .null, .null, .null, .null, .int 0, .null]))) rfl) ?_
  refine am_aload_n 0 dM_init_96 rfl rfl ?_
  refine am_bipush (v := 101) dM_init_97 (by decide) ?_
  refine am_newa0 (N := 101) dM_init_99 (am_tw kw_107 rfl) (by decide) (by decide) (by decide) ⟨Nat.le_of_ble_eq_true rfl, Nat.le_of_ble_eq_true rfl⟩ (fun p11 => ?_)
  refine am_eqW (am_wdA (T2 := [(p1, .inl (aC 2, 69, .inl (fun _ => 0))), (p2, .inl (aC 1, 101, .inr (.inl (fun _ => 0)))), (p3, .inl (aC 0, 8, .inl (fun _ => 0))), (p4, .inl (aC 0, 8, .inl (fun _ => 0))), (p5, .inl (aC 0, 512, .inl (fun _ => 0))), (p6, .inl (aC 0, 8, .inl (fun _ => 0))), (p7, .inl (aC 1, 8, .inr (.inl (fun _ => 0)))), (p8, .inl (aC 2, 8, .inl (fun _ => 0))), (p9, .inl (aC 2, 101, .inl (fun _ => 0))), (p10, .inl (aC 0, 160, .inl (fun _ => 0))), (p11, .inl (aC 0, 101, .inl (fun _ => 0)))]) rfl) ?_
  refine am_putF (C := "BubbleBoxModel") (T := am_FM) (N := 27) (fs := [.int 0, .ref p1, .int 0, .ref p2, .int 0, .long 0, .int (-1), .int 1, .int 0, .ref p3, .ref p4, .ref p5, .ref p6, .ref p7, .ref p8, .int 0, .int 0, .ref p9, .ref p10, .null, .int 0, .null, .null, .null, .null, .int 0, .null]) (v := .ref p11) 28 6 19 dM_init_101 am_hinM (am_wdQ (q := 28) (c0 := (a, .inr (6, [.int 0, .null, .int 0, .null, .int 0, .long 0, .int 0, .int 0, .int 0, .null, .null, .null, .null, .null, .null, .int 0, .int 0, .null, .null, .null, .int 0, .null, .null, .null, .null, .int 0, .null]))) rfl) rfl (by decide) am_tM am_tkM am_nM rfl (am_tw kw_678 rfl) rfl rfl rfl rfl rfl (Nat.le_of_ble_eq_true rfl) (am_wdS (c2 := (a, .inr (6, [.int 0, .ref p1, .int 0, .ref p2, .int 0, .long 0, .int (-1), .int 1, .int 0, .ref p3, .ref p4, .ref p5, .ref p6, .ref p7, .ref p8, .int 0, .int 0, .ref p9, .ref p10, .ref p11, .int 0, .null, .null, .null, .null, .int 0, .null]))) (c0 := (a, .inr (6, [.int 0, .null, .int 0, .null, .int 0, .long 0, .int 0, .int 0, .int 0, .null, .null, .null, .null, .null, .null, .int 0, .int 0, .null, .null, .null, .int 0, .null, .null, .null, .null, .int 0, .null]))) rfl) ?_
  refine am_aload_n 0 dM_init_104 rfl rfl ?_
  refine am_bipush (v := 16) dM_init_105 (by decide) ?_
  refine am_newa0 (N := 16) dM_init_107 (am_tw kw_107 rfl) (by decide) (by decide) (by decide) ⟨Nat.le_of_ble_eq_true rfl, Nat.le_of_ble_eq_true rfl⟩ (fun p12 => ?_)
  refine am_eqW (am_wdA (T2 := [(p1, .inl (aC 2, 69, .inl (fun _ => 0))), (p2, .inl (aC 1, 101, .inr (.inl (fun _ => 0)))), (p3, .inl (aC 0, 8, .inl (fun _ => 0))), (p4, .inl (aC 0, 8, .inl (fun _ => 0))), (p5, .inl (aC 0, 512, .inl (fun _ => 0))), (p6, .inl (aC 0, 8, .inl (fun _ => 0))), (p7, .inl (aC 1, 8, .inr (.inl (fun _ => 0)))), (p8, .inl (aC 2, 8, .inl (fun _ => 0))), (p9, .inl (aC 2, 101, .inl (fun _ => 0))), (p10, .inl (aC 0, 160, .inl (fun _ => 0))), (p11, .inl (aC 0, 101, .inl (fun _ => 0))), (p12, .inl (aC 0, 16, .inl (fun _ => 0)))]) rfl) ?_
  refine am_putF (C := "BubbleBoxModel") (T := am_FM) (N := 27) (fs := [.int 0, .ref p1, .int 0, .ref p2, .int 0, .long 0, .int (-1), .int 1, .int 0, .ref p3, .ref p4, .ref p5, .ref p6, .ref p7, .ref p8, .int 0, .int 0, .ref p9, .ref p10, .ref p11, .int 0, .null, .null, .null, .null, .int 0, .null]) (v := .ref p12) 28 6 21 dM_init_109 am_hinM (am_wdQ (q := 28) (c0 := (a, .inr (6, [.int 0, .null, .int 0, .null, .int 0, .long 0, .int 0, .int 0, .int 0, .null, .null, .null, .null, .null, .null, .int 0, .int 0, .null, .null, .null, .int 0, .null, .null, .null, .null, .int 0, .null]))) rfl) rfl (by decide) am_tM am_tkM am_nM rfl (am_tw kw_680 rfl) rfl rfl rfl rfl rfl (Nat.le_of_ble_eq_true rfl) (am_wdS (c2 := (a, .inr (6, [.int 0, .ref p1, .int 0, .ref p2, .int 0, .long 0, .int (-1), .int 1, .int 0, .ref p3, .ref p4, .ref p5, .ref p6, .ref p7, .ref p8, .int 0, .int 0, .ref p9, .ref p10, .ref p11, .int 0, .ref p12, .null, .null, .null, .int 0, .null]))) (c0 := (a, .inr (6, [.int 0, .null, .int 0, .null, .int 0, .long 0, .int 0, .int 0, .int 0, .null, .null, .null, .null, .null, .null, .int 0, .int 0, .null, .null, .null, .int 0, .null, .null, .null, .null, .int 0, .null]))) rfl) ?_
  refine am_aload_n 0 dM_init_112 rfl rfl ?_
  refine am_bipush (v := 16) dM_init_113 (by decide) ?_
  refine am_newa2 (N := 16) dM_init_115 (am_tw kw_50 rfl) (by decide) (by decide) (by decide) ⟨Nat.le_of_ble_eq_true rfl, Nat.le_of_ble_eq_true rfl⟩ (fun p13 => ?_)
  refine am_eqW (am_wdA (T2 := [(p1, .inl (aC 2, 69, .inl (fun _ => 0))), (p2, .inl (aC 1, 101, .inr (.inl (fun _ => 0)))), (p3, .inl (aC 0, 8, .inl (fun _ => 0))), (p4, .inl (aC 0, 8, .inl (fun _ => 0))), (p5, .inl (aC 0, 512, .inl (fun _ => 0))), (p6, .inl (aC 0, 8, .inl (fun _ => 0))), (p7, .inl (aC 1, 8, .inr (.inl (fun _ => 0)))), (p8, .inl (aC 2, 8, .inl (fun _ => 0))), (p9, .inl (aC 2, 101, .inl (fun _ => 0))), (p10, .inl (aC 0, 160, .inl (fun _ => 0))), (p11, .inl (aC 0, 101, .inl (fun _ => 0))), (p12, .inl (aC 0, 16, .inl (fun _ => 0))), (p13, .inl (aC 2, 16, .inl (fun _ => 0)))]) rfl) ?_
  refine am_putF (C := "BubbleBoxModel") (T := am_FM) (N := 27) (fs := [.int 0, .ref p1, .int 0, .ref p2, .int 0, .long 0, .int (-1), .int 1, .int 0, .ref p3, .ref p4, .ref p5, .ref p6, .ref p7, .ref p8, .int 0, .int 0, .ref p9, .ref p10, .ref p11, .int 0, .ref p12, .null, .null, .null, .int 0, .null]) (v := .ref p13) 28 6 22 dM_init_117 am_hinM (am_wdQ (q := 28) (c0 := (a, .inr (6, [.int 0, .null, .int 0, .null, .int 0, .long 0, .int 0, .int 0, .int 0, .null, .null, .null, .null, .null, .null, .int 0, .int 0, .null, .null, .null, .int 0, .null, .null, .null, .null, .int 0, .null]))) rfl) rfl (by decide) am_tM am_tkM am_nM rfl (am_tw kw_681 rfl) rfl rfl rfl rfl rfl (Nat.le_of_ble_eq_true rfl) (am_wdS (c2 := (a, .inr (6, [.int 0, .ref p1, .int 0, .ref p2, .int 0, .long 0, .int (-1), .int 1, .int 0, .ref p3, .ref p4, .ref p5, .ref p6, .ref p7, .ref p8, .int 0, .int 0, .ref p9, .ref p10, .ref p11, .int 0, .ref p12, .ref p13, .null, .null, .int 0, .null]))) (c0 := (a, .inr (6, [.int 0, .null, .int 0, .null, .int 0, .long 0, .int 0, .int 0, .int 0, .null, .null, .null, .null, .null, .null, .int 0, .int 0, .null, .null, .null, .int 0, .null, .null, .null, .null, .int 0, .null]))) rfl) ?_
  refine am_aload_n 0 dM_init_120 rfl rfl ?_
  refine am_bipush (v := 16) dM_init_121 (by decide) ?_
  refine am_newa1 (N := 16) dM_init_123 (am_tw kw_49 rfl) (by decide) (by decide) (by decide) ⟨Nat.le_of_ble_eq_true rfl, Nat.le_of_ble_eq_true rfl⟩ (fun p14 => ?_)
  refine am_eqW (am_wdA (T2 := [(p1, .inl (aC 2, 69, .inl (fun _ => 0))), (p2, .inl (aC 1, 101, .inr (.inl (fun _ => 0)))), (p3, .inl (aC 0, 8, .inl (fun _ => 0))), (p4, .inl (aC 0, 8, .inl (fun _ => 0))), (p5, .inl (aC 0, 512, .inl (fun _ => 0))), (p6, .inl (aC 0, 8, .inl (fun _ => 0))), (p7, .inl (aC 1, 8, .inr (.inl (fun _ => 0)))), (p8, .inl (aC 2, 8, .inl (fun _ => 0))), (p9, .inl (aC 2, 101, .inl (fun _ => 0))), (p10, .inl (aC 0, 160, .inl (fun _ => 0))), (p11, .inl (aC 0, 101, .inl (fun _ => 0))), (p12, .inl (aC 0, 16, .inl (fun _ => 0))), (p13, .inl (aC 2, 16, .inl (fun _ => 0))), (p14, .inl (aC 1, 16, .inr (.inl (fun _ => 0))))]) rfl) ?_
  refine am_putF (C := "BubbleBoxModel") (T := am_FM) (N := 27) (fs := [.int 0, .ref p1, .int 0, .ref p2, .int 0, .long 0, .int (-1), .int 1, .int 0, .ref p3, .ref p4, .ref p5, .ref p6, .ref p7, .ref p8, .int 0, .int 0, .ref p9, .ref p10, .ref p11, .int 0, .ref p12, .ref p13, .null, .null, .int 0, .null]) (v := .ref p14) 28 6 23 dM_init_125 am_hinM (am_wdQ (q := 28) (c0 := (a, .inr (6, [.int 0, .null, .int 0, .null, .int 0, .long 0, .int 0, .int 0, .int 0, .null, .null, .null, .null, .null, .null, .int 0, .int 0, .null, .null, .null, .int 0, .null, .null, .null, .null, .int 0, .null]))) rfl) rfl (by decide) am_tM am_tkM am_nM rfl (am_tw kw_682 rfl) rfl rfl rfl rfl rfl (Nat.le_of_ble_eq_true rfl) (am_wdS (c2 := (a, .inr (6, [.int 0, .ref p1, .int 0, .ref p2, .int 0, .long 0, .int (-1), .int 1, .int 0, .ref p3, .ref p4, .ref p5, .ref p6, .ref p7, .ref p8, .int 0, .int 0, .ref p9, .ref p10, .ref p11, .int 0, .ref p12, .ref p13, .ref p14, .null, .int 0, .null]))) (c0 := (a, .inr (6, [.int 0, .null, .int 0, .null, .int 0, .long 0, .int 0, .int 0, .int 0, .null, .null, .null, .null, .null, .null, .int 0, .int 0, .null, .null, .null, .int 0, .null, .null, .null, .null, .int 0, .null]))) rfl) ?_
  refine am_aload_n 0 dM_init_128 rfl rfl ?_
  refine am_bipush (v := 16) dM_init_129 (by decide) ?_
  refine am_newa2 (N := 16) dM_init_131 (am_tw kw_50 rfl) (by decide) (by decide) (by decide) ⟨Nat.le_of_ble_eq_true rfl, Nat.le_of_ble_eq_true rfl⟩ (fun p15 => ?_)
  refine am_eqW (am_wdA (T2 := [(p1, .inl (aC 2, 69, .inl (fun _ => 0))), (p2, .inl (aC 1, 101, .inr (.inl (fun _ => 0)))), (p3, .inl (aC 0, 8, .inl (fun _ => 0))), (p4, .inl (aC 0, 8, .inl (fun _ => 0))), (p5, .inl (aC 0, 512, .inl (fun _ => 0))), (p6, .inl (aC 0, 8, .inl (fun _ => 0))), (p7, .inl (aC 1, 8, .inr (.inl (fun _ => 0)))), (p8, .inl (aC 2, 8, .inl (fun _ => 0))), (p9, .inl (aC 2, 101, .inl (fun _ => 0))), (p10, .inl (aC 0, 160, .inl (fun _ => 0))), (p11, .inl (aC 0, 101, .inl (fun _ => 0))), (p12, .inl (aC 0, 16, .inl (fun _ => 0))), (p13, .inl (aC 2, 16, .inl (fun _ => 0))), (p14, .inl (aC 1, 16, .inr (.inl (fun _ => 0)))), (p15, .inl (aC 2, 16, .inl (fun _ => 0)))]) rfl) ?_
  refine am_putF (C := "BubbleBoxModel") (T := am_FM) (N := 27) (fs := [.int 0, .ref p1, .int 0, .ref p2, .int 0, .long 0, .int (-1), .int 1, .int 0, .ref p3, .ref p4, .ref p5, .ref p6, .ref p7, .ref p8, .int 0, .int 0, .ref p9, .ref p10, .ref p11, .int 0, .ref p12, .ref p13, .ref p14, .null, .int 0, .null]) (v := .ref p15) 28 6 24 dM_init_133 am_hinM (am_wdQ (q := 28) (c0 := (a, .inr (6, [.int 0, .null, .int 0, .null, .int 0, .long 0, .int 0, .int 0, .int 0, .null, .null, .null, .null, .null, .null, .int 0, .int 0, .null, .null, .null, .int 0, .null, .null, .null, .null, .int 0, .null]))) rfl) rfl (by decide) am_tM am_tkM am_nM rfl (am_tw kw_683 rfl) rfl rfl rfl rfl rfl (Nat.le_of_ble_eq_true rfl) (am_wdS (c2 := (a, .inr (6, [.int 0, .ref p1, .int 0, .ref p2, .int 0, .long 0, .int (-1), .int 1, .int 0, .ref p3, .ref p4, .ref p5, .ref p6, .ref p7, .ref p8, .int 0, .int 0, .ref p9, .ref p10, .ref p11, .int 0, .ref p12, .ref p13, .ref p14, .ref p15, .int 0, .null]))) (c0 := (a, .inr (6, [.int 0, .null, .int 0, .null, .int 0, .long 0, .int 0, .int 0, .int 0, .null, .null, .null, .null, .null, .null, .int 0, .int 0, .null, .null, .null, .int 0, .null, .null, .null, .null, .int 0, .null]))) rfl) ?_
  refine am_aload_n 0 dM_init_136 rfl rfl ?_
  refine am_bipush (v := 16) dM_init_137 (by decide) ?_
  refine am_newa1 (N := 16) dM_init_139 (am_tw kw_49 rfl) (by decide) (by decide) (by decide) ⟨Nat.le_of_ble_eq_true rfl, Nat.le_of_ble_eq_true rfl⟩ (fun p16 => ?_)
  refine am_eqW (am_wdA (T2 := [(p1, .inl (aC 2, 69, .inl (fun _ => 0))), (p2, .inl (aC 1, 101, .inr (.inl (fun _ => 0)))), (p3, .inl (aC 0, 8, .inl (fun _ => 0))), (p4, .inl (aC 0, 8, .inl (fun _ => 0))), (p5, .inl (aC 0, 512, .inl (fun _ => 0))), (p6, .inl (aC 0, 8, .inl (fun _ => 0))), (p7, .inl (aC 1, 8, .inr (.inl (fun _ => 0)))), (p8, .inl (aC 2, 8, .inl (fun _ => 0))), (p9, .inl (aC 2, 101, .inl (fun _ => 0))), (p10, .inl (aC 0, 160, .inl (fun _ => 0))), (p11, .inl (aC 0, 101, .inl (fun _ => 0))), (p12, .inl (aC 0, 16, .inl (fun _ => 0))), (p13, .inl (aC 2, 16, .inl (fun _ => 0))), (p14, .inl (aC 1, 16, .inr (.inl (fun _ => 0)))), (p15, .inl (aC 2, 16, .inl (fun _ => 0))), (p16, .inl (aC 1, 16, .inr (.inl (fun _ => 0))))]) rfl) ?_
  refine am_putF (C := "BubbleBoxModel") (T := am_FM) (N := 27) (fs := [.int 0, .ref p1, .int 0, .ref p2, .int 0, .long 0, .int (-1), .int 1, .int 0, .ref p3, .ref p4, .ref p5, .ref p6, .ref p7, .ref p8, .int 0, .int 0, .ref p9, .ref p10, .ref p11, .int 0, .ref p12, .ref p13, .ref p14, .ref p15, .int 0, .null]) (v := .ref p16) 28 6 26 dM_init_141 am_hinM (am_wdQ (q := 28) (c0 := (a, .inr (6, [.int 0, .null, .int 0, .null, .int 0, .long 0, .int 0, .int 0, .int 0, .null, .null, .null, .null, .null, .null, .int 0, .int 0, .null, .null, .null, .int 0, .null, .null, .null, .null, .int 0, .null]))) rfl) rfl (by decide) am_tM am_tkM am_nM rfl (am_tw kw_685 rfl) rfl rfl rfl rfl rfl (Nat.le_of_ble_eq_true rfl) (am_wdS (c2 := (a, .inr (6, [.int 0, .ref p1, .int 0, .ref p2, .int 0, .long 0, .int (-1), .int 1, .int 0, .ref p3, .ref p4, .ref p5, .ref p6, .ref p7, .ref p8, .int 0, .int 0, .ref p9, .ref p10, .ref p11, .int 0, .ref p12, .ref p13, .ref p14, .ref p15, .int 0, .ref p16]))) (c0 := (a, .inr (6, [.int 0, .null, .int 0, .null, .int 0, .long 0, .int 0, .int 0, .int 0, .null, .null, .null, .null, .null, .null, .int 0, .int 0, .null, .null, .null, .int 0, .null, .null, .null, .null, .int 0, .null]))) rfl) ?_
  refine am_aload_n 0 dM_init_144 rfl rfl ?_
  refine am_eqW (show _ = am_v (fun k => [b0, b1, b2, b3, b4, b5, b6, b7, b8, b9, b10, b11, b12, b13, b14, b15, b16, b17, b18, b19, b20, b21, b22, b23, b24, b25, b26, b27, a, p1, p2, p3, p4, p5, p6, p7, p8, p9, p10, p11, p12, p13, p14, p15, p16].getD k 0) aC am_I0 am_J0 from (by rw [am_v_list]; rfl)) ?_
  refine am_callV 28 6 (As := []) (N9 := 0) (v_t_M_forget (ad := (fun k => [b0, b1, b2, b3, b4, b5, b6, b7, b8, b9, b10, b11, b12, b13, b14, b15, b16, b17, b18, b19, b20, b21, b22, b23, b24, b25, b26, b27, a, p1, p2, p3, p4, p5, p6, p7, p8, p9, p10, p11, p12, p13, p14, p15, p16].getD k 0)) hlt h) dM_init_145 rfl (am_v_at _ aC am_I0 am_J0 (by omega)) rfl (am_tw kw_651 rfl) (am_tw kw_654 rfl) (am_tw kw_653 rfl) ks_50 (am_tw kw_7 rfl) (by decide +kernel) rfl (Nat.le_of_ble_eq_true rfl) ⟨rfl, rfl⟩ ⟨Nat.le_of_ble_eq_true rfl, Nat.le_of_ble_eq_true rfl⟩ ⟨Nat.le_of_ble_eq_true rfl, Nat.le_of_ble_eq_true rfl⟩ (fun E ws1 hx => ?_) ?_
  · obtain ⟨I1, J1, -, hx⟩ := hx
    exact hx.elim
  · intro v1 ws1 hq1
    obtain ⟨I1, J1, rfl, rfl, hq1⟩ := hq1
    exact am_vret dM_init_148 rfl (Nat.le_of_ble_eq_true rfl) (Nat.le_of_ble_eq_true rfl) ⟨rfl, (fun k => [b0, b1, b2, b3, b4, b5, b6, b7, b8, b9, b10, b11, b12, b13, b14, b15, b16, b17, b18, b19, b20, b21, b22, b23, b24, b25, b26, b27, a, p1, p2, p3, p4, p5, p6, p7, p8, p9, p10, p11, p12, p13, p14, p15, p16].getD k 0), I1, J1, rfl, hq1, rfl, rfl⟩
theorem am_v_w {ad : Nat → Nat} {aC : Nat → ClassId} {I : am_MI} {J : am_MJ} {p : Nat} : am_v ad aC I J ++ [(p, .inl (aC 1, 1, .inr (.inl (fun _ => 0))))] = am_w (fun k => if k = 45 then p else ad k) aC I (fun k => if k = 45 then (fun _ => 0) else J k) := by
  have e : ∀ (f : Nat → Nat) (k : Nat) (i : Nat → Int32) (j : Nat → Int64), k < 45 → (∀ q, q < 45 → f q = ad q) → am_cell f aC k i j = am_cell ad aC k i j := by
    intro f k i j hk hf
    match k, hk with
    | 0, _ => simp only [am_cell, hf 1 (by omega), hf 4 (by omega), hf 17 (by omega), hf 23 (by omega)]
    | 1, _ => simp only [am_cell, hf 2 (by omega), hf 3 (by omega)]
    | 2, _ => rfl
    | 3, _ => rfl
    | 4, _ => simp only [am_cell, hf 5 (by omega), hf 14 (by omega), hf 15 (by omega), hf 16 (by omega)]
    | 5, _ => exact congrArg (fun h => (.inl (aC 3, 8, .inr (.inr (.inr (.inr h)))) : va_E)) (funext fun q => if h : q < 8 then by rw [if_pos h, if_pos h, hf _ (by omega)] else by rw [if_neg h, if_neg h])
    | 6, _ => rfl
    | 7, _ => rfl
    | 8, _ => rfl
    | 9, _ => rfl
    | 10, _ => rfl
    | 11, _ => rfl
    | 12, _ => rfl
    | 13, _ => rfl
    | 14, _ => rfl
    | 15, _ => rfl
    | 16, _ => rfl
    | 17, _ => simp only [am_cell, hf 18 (by omega), hf 19 (by omega), hf 20 (by omega), hf 21 (by omega), hf 22 (by omega)]
    | 18, _ => rfl
    | 19, _ => rfl
    | 20, _ => rfl
    | 21, _ => rfl
    | 22, _ => rfl
    | 23, _ => exact congrArg (fun h => (.inl (aC 4, 2, .inr (.inr (.inr (.inr h)))) : va_E)) (funext fun q => if h : q < 2 then by rw [if_pos h, if_pos h, hf _ (by omega)] else by rw [if_neg h, if_neg h])
    | 24, _ => simp only [am_cell, hf 25 (by omega)]
    | 25, _ => rfl
    | 26, _ => simp only [am_cell, hf 27 (by omega)]
    | 27, _ => rfl
    | 28, _ => simp only [am_cell, hf 29 (by omega), hf 30 (by omega), hf 31 (by omega), hf 32 (by omega), hf 33 (by omega), hf 34 (by omega), hf 35 (by omega), hf 36 (by omega), hf 37 (by omega), hf 38 (by omega), hf 39 (by omega), hf 40 (by omega), hf 41 (by omega), hf 42 (by omega), hf 43 (by omega), hf 44 (by omega)]
    | 29, _ => rfl
    | 30, _ => rfl
    | 31, _ => rfl
    | 32, _ => rfl
    | 33, _ => rfl
    | 34, _ => rfl
    | 35, _ => rfl
    | 36, _ => rfl
    | 37, _ => rfl
    | 38, _ => rfl
    | 39, _ => rfl
    | 40, _ => rfl
    | 41, _ => rfl
    | 42, _ => rfl
    | 43, _ => rfl
    | 44, _ => rfl
    | q + 45, h => exact absurd h (by omega)
  unfold am_v am_w
  rw [show List.range 46 = List.range 45 ++ [45] from List.range_succ, List.map_append]
  congr 1
  · apply List.map_congr_left
    intro k hk
    have hk : k < 45 := List.mem_range.mp hk
    have h1 : ¬ k = 45 := by omega
    simp only [h1, if_false]
    rw [e (fun k => if k = 45 then p else ad k) k _ _ hk (fun q hq => by simp only [show ¬ q = 45 by omega, if_false])]
set_option maxRecDepth 20000 in
set_option maxHeartbeats 4000000 in
theorem am_start {l : Launch} {D : va_G} {aC : Nat → ClassId} (hlt : l.stackTraces = false) {b L0 : Nat} {xs : Nat → Int32} {K : am_MI → am_MJ → Prop} (h : w_M_forget am_I0 am_J0 K (fun _ _ _ => False))
    (kk : ∀ (ad : Nat → Nat) (I : am_MI) (J : am_MJ), K I J → am l D aC "BubbleBoxLaw" cL_law 8 (some .boolean) false [] (am_GS b L0 xs) room_1 601024 7293034 100 5000 23 [(0, .ref b), (1, .ref (ad 0)), (2, .ref (ad 28)), (3, .ref (ad 45)), (4, .int (nI 0))] [] (am_w ad aC I (fun k => if k = 45 then (fun _ => 0) else J k)) (fun v _ => v = some (.int 1)) (am_lx ad aC (fun _ _ _ => False))) : am l D aC "BubbleBoxLaw" cL_law 8 (some .boolean) false [] (am_GS b L0 xs) room_1 601024 7293034 0 0 0 [(0, .ref b)] [] [] (fun v _ => v = some (.int 1)) (fun _ _ => False) := by
  refine am_new (C := "BubbleBox") (T := am_FB) (N := 8) (fs := [.null, .null, .null, .null, .int 0, .int 0, .int 0, .int 0]) 0 dL_law_0 am_hinB am_tB am_tkB (am_tw kw_15 rfl) (am_tw kw_16 rfl) (am_tw kw_1 rfl) rfl (by decide +kernel) ⟨Nat.le_of_ble_eq_true rfl, Nat.le_of_ble_eq_true rfl⟩ (fun b0 => ?_)
  refine am_dup dL_law_3 rfl ?_
  refine am_callI (As := []) (N9 := 0) (u_B_init hlt (N := 1) (q := 0) rfl rfl) dL_law_4 rfl rfl (am_tw kw_17 rfl) (am_tw kw_19 rfl) (am_tw kw_18 rfl) (am_tw kw_1 rfl) (by decide +kernel) rfl (Nat.le_of_ble_eq_true rfl) ⟨rfl, rfl⟩ ⟨Nat.le_of_ble_eq_true rfl, Nat.le_of_ble_eq_true rfl⟩ ⟨Nat.le_of_ble_eq_true rfl, Nat.le_of_ble_eq_true rfl⟩ ?_
  intro v1 ws1 hq1
  obtain ⟨rfl, b1, b2, b3, b4, b5, b6, b7, b8, b9, b10, b11, b12, b13, b14, b15, b16, b17, b18, b19, b20, b21, b22, b23, b24, b25, b26, b27, rfl⟩ := hq1
  refine am_astore_n (L2 := [(1, .ref b0), (0, .ref b)]) dL_law_7 rfl (Nat.le_of_ble_eq_true rfl) rfl ?_
  refine am_new (C := "BubbleBoxModel") (T := am_FM) (N := 27) (fs := [.int 0, .null, .int 0, .null, .int 0, .long 0, .int 0, .int 0, .int 0, .null, .null, .null, .null, .null, .null, .int 0, .int 0, .null, .null, .null, .int 0, .null, .null, .null, .null, .int 0, .null]) 6 dL_law_8 am_hinM am_tM am_tkM (am_tw kw_645 rfl) (am_tw kw_646 rfl) (am_tw kw_7 rfl) rfl (by decide +kernel) ⟨Nat.le_of_ble_eq_true rfl, Nat.le_of_ble_eq_true rfl⟩ (fun a => ?_)
  refine am_eqW (show _ = [(b0, .inr (0, [.ref b1, .ref b4, .ref b17, .ref b23, .int 1, .int (-1), .int 0, .int 0])), (b1, .inr (1, [.ref b2, .ref b3, .int 0, .int 0, .long 0])), (b2, .inl (aC 1, 101, .inr (.inl (fun _ => 0)))), (b3, .inl (aC 2, 69, .inl (fun _ => 0))), (b4, .inr (2, [.ref b5, .ref b14, .ref b15, .ref b16])), (b5, .inl (aC 3, 8, .inr (.inr (.inr (.inr (va_up (va_up (va_up (va_up (va_up (va_up (va_up (va_up (fun _ => none) 0 (some b6)) 1 (some b7)) 2 (some b8)) 3 (some b9)) 4 (some b10)) 5 (some b11)) 6 (some b12)) 7 (some b13))))))), (b6, .inr (3, [.int 0, .int 0, .int 0, .int 0, .long 0, .int 0])), (b7, .inr (3, [.int 0, .int 0, .int 0, .int 0, .long 0, .int 0])), (b8, .inr (3, [.int 0, .int 0, .int 0, .int 0, .long 0, .int 0])), (b9, .inr (3, [.int 0, .int 0, .int 0, .int 0, .long 0, .int 0])), (b10, .inr (3, [.int 0, .int 0, .int 0, .int 0, .long 0, .int 0])), (b11, .inr (3, [.int 0, .int 0, .int 0, .int 0, .long 0, .int 0])), (b12, .inr (3, [.int 0, .int 0, .int 0, .int 0, .long 0, .int 0])), (b13, .inr (3, [.int 0, .int 0, .int 0, .int 0, .long 0, .int 0])), (b14, .inl (aC 0, 101, .inl (fun _ => 0))), (b15, .inl (aC 2, 101, .inl (fun _ => 0))), (b16, .inl (aC 2, 101, .inl (fun _ => 0))), (b17, .inr (5, [.ref b18, .ref b19, .ref b20, .ref b21, .ref b22, .int 0, .int 0])), (b18, .inl (aC 0, 16, .inl (fun _ => 0))), (b19, .inl (aC 2, 16, .inl (fun _ => 0))), (b20, .inl (aC 1, 16, .inr (.inl (fun _ => 0)))), (b21, .inl (aC 2, 16, .inl (fun _ => 0))), (b22, .inl (aC 1, 16, .inr (.inl (fun _ => 0)))), (b23, .inl (aC 4, 2, .inr (.inr (.inr (.inr (va_up (va_up (fun _ => none) 0 (some b24)) 1 (some b26))))))), (b24, .inr (4, [.ref b25])), (b25, .inl (aC 1, 20, .inr (.inl (fun _ => 0)))), (b26, .inr (4, [.ref b27])), (b27, .inl (aC 1, 20, .inr (.inl (fun _ => 0)))), (a, .inr (6, [.int 0, .null, .int 0, .null, .int 0, .long 0, .int 0, .int 0, .int 0, .null, .null, .null, .null, .null, .null, .int 0, .int 0, .null, .null, .null, .int 0, .null, .null, .null, .null, .int 0, .null]))] from rfl) ?_
  refine am_dup dL_law_11 rfl ?_
  refine am_callI (As := []) (N9 := 0) (u_M_init hlt h) dL_law_12 rfl rfl (am_tw kw_647 rfl) (am_tw kw_649 rfl) (am_tw kw_648 rfl) (am_tw kw_7 rfl) (by decide +kernel) rfl (Nat.le_of_ble_eq_true rfl) ⟨rfl, rfl⟩ ⟨Nat.le_of_ble_eq_true rfl, Nat.le_of_ble_eq_true rfl⟩ ⟨Nat.le_of_ble_eq_true rfl, Nat.le_of_ble_eq_true rfl⟩ ?_
  intro v1 ws1 hq1
  obtain ⟨rfl, ad, I, J, rfl, hK, rfl, rfl⟩ := hq1
  refine am_astore_n (L2 := [(2, .ref (ad 28)), (1, .ref (ad 0)), (0, .ref b)]) dL_law_15 rfl (Nat.le_of_ble_eq_true rfl) rfl ?_
  refine am_iconst (v := 1) dL_law_16 (by decide) ?_
  refine am_newa1 (N := 1) dL_law_17 (am_tw kw_49 rfl) (by decide) (by decide) (by decide) ⟨Nat.le_of_ble_eq_true rfl, Nat.le_of_ble_eq_true rfl⟩ (fun p => ?_)
  refine am_eqW am_v_w ?_
  refine am_astore_n (L2 := [(3, .ref p), (2, .ref (ad 28)), (1, .ref (ad 0)), (0, .ref b)]) dL_law_19 rfl (Nat.le_of_ble_eq_true rfl) rfl ?_
  refine am_iconst (v := 0) dL_law_20 (by decide) ?_
  refine am_istore (L2 := [(4, .int 0), (3, .ref p), (2, .ref (ad 28)), (1, .ref (ad 0)), (0, .ref b)]) dL_law_21 (Nat.le_of_ble_eq_true rfl) rfl ?_
  refine am_sub [4, 3, 2, 1, 0] rfl ?_
  refine am_widen (k2 := 100) (n2 := 5000) (Nat.le_of_ble_eq_true rfl) (Nat.le_of_ble_eq_true rfl) ?_
  refine am_mono ?_ (fun E ws1 hx => ?_) (kk (fun k => if k = 45 then p else ad k) I J hK)
  · exact fun _ _ h => h
  · obtain ⟨I1, J1, -, hx⟩ := hx
    exact hx
end AMV
