
def w_B_power (a0 : Int32) (I : am_MI) (J : am_MJ) (Q : am_MI → am_MJ → Prop) (X : String → am_MI → am_MJ → Prop) : Prop :=
  ((I 0 4) = 0 → (Q I J)) ∧ (¬ ((I 0 4) = 0) → ((0 ≤ a0 → (Q (am_ui I 0 5 a0) J)) ∧ (¬ (0 ≤ a0) → (Q (am_ui I 0 5 ((-1) : Int32)) J))))
set_option maxRecDepth 20000 in
theorem t_B_power {l : Launch} {D : va_G} {aC : Nat → ClassId} {ad : Nat → Nat} (hlt : l.stackTraces = false) {a0 : Int32} {I : am_MI} {J : am_MJ} {Q} {X} (h : w_B_power a0 I J Q X) : am_c l D aC yB_power (.code yB_power cB_power 2 none) (am_rm 1) 0 0 [.ref (ad 0), .int a0] (am_w ad aC I J) (am_lv ad aC Q) (am_lx ad aC X) := by
  unfold w_B_power at h
  refine am_of (ini := false) hlt (by decide +kernel) (Nat.le_of_ble_eq_true rfl) (fun h => nomatch h) ?_
  show am l D aC "BubbleBox" cB_power 2 none false [] am_G0 (am_rm 1) 0 0 0 0 0 [(0, .ref (ad 0)), (1, .int a0)] [] (am_w ad aC I J) (am_lv ad aC Q) (am_lx ad aC X)
  refine am_aload_n 0 dB_power_0 rfl rfl ?_
  refine go_B_condition dB_power_1 (am_tw kw_158 rfl) ?_
  refine am_if_eq 20 dB_power_4 (by decide) (fun hc1 => ?_) (fun hc1 => ?_)
  · replace h := h.1 hc1
    exact am_vret dB_power_20 rfl (Nat.le_of_ble_eq_true rfl) (Nat.le_of_ble_eq_true rfl) ⟨_, _, rfl, rfl, h⟩
  · replace h := h.2 hc1
    refine am_aload_n 0 dB_power_7 rfl rfl ?_
    refine am_iload_n 1 dB_power_8 rfl rfl ?_
    refine am_if_ge 16 dB_power_9 (by decide) (fun hc2 => ?_) (fun hc2 => ?_)
    · replace h := h.1 hc2
      refine am_iload_n 1 dB_power_16 rfl rfl ?_
      refine po_B_transfersLeft dB_power_17 (am_tw kw_159 rfl) ?_
      exact am_vret dB_power_20 rfl (Nat.le_of_ble_eq_true rfl) (Nat.le_of_ble_eq_true rfl) ⟨_, _, rfl, rfl, h⟩
    · replace h := h.2 hc2
      refine am_iconst (v := (-1)) dB_power_12 (by decide) ?_
      refine am_goto 17 dB_power_13 (by decide) ?_
      refine po_B_transfersLeft dB_power_17 (am_tw kw_159 rfl) ?_
      exact am_vret dB_power_20 rfl (Nat.le_of_ble_eq_true rfl) (Nat.le_of_ble_eq_true rfl) ⟨_, _, rfl, rfl, h⟩
section
variable {l : Launch} {D : va_G} {aC : Nat → ClassId} {ad : Nat → Nat} {own : String} {cc : ByteArray} {nL : Nat} {ret : Option FieldType} {ini : Bool} {tb : List (Nat × Nat × Nat × Nat)} {G : State → (Nat → Prop) → Prop} {rm : Room} {mc ms k n pc idx : Nat} {L : List (Nat × Value)} {st rest : List Value} {I : am_MI} {J : am_MJ} {Q : Option Value → va_W → Prop} {X : String → va_W → Prop}
theorem kV_B_power {a0 : Int32} {K : am_MI → am_MJ → Prop} {X1 : String → am_MI → am_MJ → Prop} (hd : decode cc pc = .ok (.invokevirtual idx, 3)) (hlink : Cond.methodLink own idx yB_power ∈ am_TW) (hcat : (rest.map fun v => v.category).sum ≤ 8) (hR : 1 + 1 ≤ rm.frames ∧ 8 + (2 + 11) + 38 * 1 ≤ rm.locals) (hk : k + 1 ≤ rm.cells ∧ n + 6 ≤ rm.slots) (hm : k ≤ mc ∧ n ≤ ms) (hlt : l.stackTraces = false) (h : w_B_power a0 I J K X1) (kk : ∀ (I1 : am_MI) (J1 : am_MJ), K I1 J1 → am l D aC own cc nL ret ini [] G rm mc ms k n (pc + 3) L rest (am_w ad aC I1 J1) Q (am_lx ad aC X1)) : am l D aC own cc nL ret ini [] G rm mc ms k n pc L (.int a0 :: .ref (ad 0) :: rest) (am_w ad aC I J) Q (am_lx ad aC X1) := by
  refine am_callV 0 0 (As := [.int a0]) (N9 := 1) (t_B_power hlt h) hd rfl (am_w_at ad aC I J (by omega)) rfl hlink (am_tw kw_182 rfl) (am_tw kw_180 rfl) (am_tw kw_181 rfl) (am_tw kw_1 rfl) (by decide +kernel) rfl hcat ⟨rfl, rfl⟩ hR hk (fun E ws1 hx => am_out (fun x hx => nomatch hx) (Nat.add_le_add_right hm.1 1) (Nat.add_le_add_right hm.2 6) hx) ?_
  intro v ws1 hq
  obtain ⟨I1, J1, rfl, rfl, hq⟩ := hq
  exact kk I1 J1 hq
end

def w_B_state (I : am_MI) (J : am_MJ) (Q : Int32 → am_MI → am_MJ → Prop) (X : String → am_MI → am_MJ → Prop) : Prop :=
  Q (I 0 4) I J
set_option maxRecDepth 20000 in
theorem t_B_state {l : Launch} {D : va_G} {aC : Nat → ClassId} {ad : Nat → Nat} (hlt : l.stackTraces = false) {I : am_MI} {J : am_MJ} {Q} {X} (h : w_B_state I J Q X) : am_c l D aC yB_state (.code yB_state cB_state 1 (some .int)) (am_rm 1) 0 0 [.ref (ad 0)] (am_w ad aC I J) (am_li ad aC Q) (am_lx ad aC X) := by
  unfold w_B_state at h
  refine am_of (ini := false) hlt (by decide +kernel) (Nat.le_of_ble_eq_true rfl) (fun h => nomatch h) ?_
  show am l D aC "BubbleBox" cB_state 1 (some .int) false [] am_G0 (am_rm 1) 0 0 0 0 0 [(0, .ref (ad 0))] [] (am_w ad aC I J) (am_li ad aC Q) (am_lx ad aC X)
  refine am_aload_n 0 dB_state_0 rfl rfl ?_
  refine go_B_condition dB_state_1 (am_tw kw_158 rfl) ?_
  exact am_iret dB_state_4 rfl (Nat.le_of_ble_eq_true rfl) (Nat.le_of_ble_eq_true rfl) ⟨_, _, _, rfl, rfl, h⟩
section
variable {l : Launch} {D : va_G} {aC : Nat → ClassId} {ad : Nat → Nat} {own : String} {cc : ByteArray} {nL : Nat} {ret : Option FieldType} {ini : Bool} {tb : List (Nat × Nat × Nat × Nat)} {G : State → (Nat → Prop) → Prop} {rm : Room} {mc ms k n pc idx : Nat} {L : List (Nat × Value)} {st rest : List Value} {I : am_MI} {J : am_MJ} {Q : Option Value → va_W → Prop} {X : String → va_W → Prop}
theorem kV_B_state {K : Int32 → am_MI → am_MJ → Prop} {X1 : String → am_MI → am_MJ → Prop} (hd : decode cc pc = .ok (.invokevirtual idx, 3)) (hlink : Cond.methodLink own idx yB_state ∈ am_TW) (hcat : (rest.map fun v => v.category).sum ≤ 8) (hR : 1 + 1 ≤ rm.frames ∧ 8 + (1 + 11) + 38 * 1 ≤ rm.locals) (hk : k + 1 ≤ rm.cells ∧ n + 6 ≤ rm.slots) (hm : k ≤ mc ∧ n ≤ ms) (hlt : l.stackTraces = false) (h : w_B_state I J K X1) (kk : ∀ (r : Int32) (I1 : am_MI) (J1 : am_MJ), K r I1 J1 → am l D aC own cc nL ret ini [] G rm mc ms k n (pc + 3) L (.int r :: rest) (am_w ad aC I1 J1) Q (am_lx ad aC X1)) : am l D aC own cc nL ret ini [] G rm mc ms k n pc L (.ref (ad 0) :: rest) (am_w ad aC I J) Q (am_lx ad aC X1) := by
  refine am_callV 0 0 (As := []) (N9 := 0) (t_B_state hlt h) hd rfl (am_w_at ad aC I J (by omega)) rfl hlink (am_tw kw_186 rfl) (am_tw kw_184 rfl) (am_tw kw_185 rfl) (am_tw kw_1 rfl) (by decide +kernel) rfl hcat ⟨rfl, rfl⟩ hR hk (fun E ws1 hx => am_out (fun x hx => nomatch hx) (Nat.add_le_add_right hm.1 1) (Nat.add_le_add_right hm.2 6) hx) ?_
  intro v ws1 hq
  obtain ⟨r, I1, J1, rfl, rfl, hq⟩ := hq
  exact kk r I1 J1 hq
end

def w_B_steps (I : am_MI) (J : am_MJ) (Q : Int64 → am_MI → am_MJ → Prop) (X : String → am_MI → am_MJ → Prop) : Prop :=
  Q (J 1 4) I J
set_option maxRecDepth 20000 in
theorem t_B_steps {l : Launch} {D : va_G} {aC : Nat → ClassId} {ad : Nat → Nat} (hlt : l.stackTraces = false) {I : am_MI} {J : am_MJ} {Q} {X} (h : w_B_steps I J Q X) : am_c l D aC yB_steps (.code yB_steps cB_steps 1 (some .long)) (am_rm 1) 0 0 [.ref (ad 0)] (am_w ad aC I J) (am_ll ad aC Q) (am_lx ad aC X) := by
  unfold w_B_steps at h
  refine am_of (ini := false) hlt (by decide +kernel) (Nat.le_of_ble_eq_true rfl) (fun h => nomatch h) ?_
  show am l D aC "BubbleBox" cB_steps 1 (some .long) false [] am_G0 (am_rm 1) 0 0 0 0 0 [(0, .ref (ad 0))] [] (am_w ad aC I J) (am_ll ad aC Q) (am_lx ad aC X)
  refine am_aload_n 0 dB_steps_0 rfl rfl ?_
  refine go_B_chip dB_steps_1 (am_tw kw_154 rfl) ?_
  refine gn_C_stepsTaken dB_steps_4 (am_tn kw_37 rfl) ?_
  exact am_lret dB_steps_7 rfl (Nat.le_of_ble_eq_true rfl) (Nat.le_of_ble_eq_true rfl) ⟨_, _, _, rfl, rfl, h⟩
section
variable {l : Launch} {D : va_G} {aC : Nat → ClassId} {ad : Nat → Nat} {own : String} {cc : ByteArray} {nL : Nat} {ret : Option FieldType} {ini : Bool} {tb : List (Nat × Nat × Nat × Nat)} {G : State → (Nat → Prop) → Prop} {rm : Room} {mc ms k n pc idx : Nat} {L : List (Nat × Value)} {st rest : List Value} {I : am_MI} {J : am_MJ} {Q : Option Value → va_W → Prop} {X : String → va_W → Prop}
theorem kV_B_steps {K : Int64 → am_MI → am_MJ → Prop} {X1 : String → am_MI → am_MJ → Prop} (hd : decode cc pc = .ok (.invokevirtual idx, 3)) (hlink : Cond.methodLink own idx yB_steps ∈ am_TW) (hcat : (rest.map fun v => v.category).sum ≤ 8) (hR : 1 + 1 ≤ rm.frames ∧ 8 + (1 + 11) + 38 * 1 ≤ rm.locals) (hk : k + 1 ≤ rm.cells ∧ n + 6 ≤ rm.slots) (hm : k ≤ mc ∧ n ≤ ms) (hlt : l.stackTraces = false) (h : w_B_steps I J K X1) (kk : ∀ (r : Int64) (I1 : am_MI) (J1 : am_MJ), K r I1 J1 → am l D aC own cc nL ret ini [] G rm mc ms k n (pc + 3) L (.long r :: rest) (am_w ad aC I1 J1) Q (am_lx ad aC X1)) : am l D aC own cc nL ret ini [] G rm mc ms k n pc L (.ref (ad 0) :: rest) (am_w ad aC I J) Q (am_lx ad aC X1) := by
  refine am_callV 0 0 (As := []) (N9 := 0) (t_B_steps hlt h) hd rfl (am_w_at ad aC I J (by omega)) rfl hlink (am_tw kw_190 rfl) (am_tw kw_188 rfl) (am_tw kw_189 rfl) (am_tw kw_1 rfl) (by decide +kernel) rfl hcat ⟨rfl, rfl⟩ hR hk (fun E ws1 hx => am_out (fun x hx => nomatch hx) (Nat.add_le_add_right hm.1 1) (Nat.add_le_add_right hm.2 6) hx) ?_
  intro v ws1 hq
  obtain ⟨r, I1, J1, rfl, rfl, hq⟩ := hq
  exact kk r I1 J1 hq
end

def w_B_forgetAll (I : am_MI) (J : am_MJ) (Q : am_MI → am_MJ → Prop) (X : String → am_MI → am_MJ → Prop) : Prop :=
  w_D_forget I J (fun (I1 : am_MI) (J2 : am_MJ) => w_R_forget I1 J2 (fun (I4 : am_MI) (J5 : am_MJ) => Q I4 J5) (fun _ _ _ => False)) (fun _ _ _ => False)
set_option maxRecDepth 20000 in
theorem t_B_forgetAll {l : Launch} {D : va_G} {aC : Nat → ClassId} {ad : Nat → Nat} (hlt : l.stackTraces = false) {I : am_MI} {J : am_MJ} {Q} {X} (h : w_B_forgetAll I J Q X) : am_c l D aC yB_forgetAll (.code yB_forgetAll cB_forgetAll 1 none) (am_rm 4) 0 0 [.ref (ad 0)] (am_w ad aC I J) (am_lv ad aC Q) (am_lx ad aC X) := by
  unfold w_B_forgetAll at h
  refine am_of (ini := false) hlt (by decide +kernel) (Nat.le_of_ble_eq_true rfl) (fun h => nomatch h) ?_
  show am l D aC "BubbleBox" cB_forgetAll 1 none false [] am_G0 (am_rm 4) 0 0 0 0 0 [(0, .ref (ad 0))] [] (am_w ad aC I J) (am_lv ad aC Q) (am_lx ad aC X)
  refine am_aload_n 0 dB_forgetAll_0 rfl rfl ?_
  refine go_B_directory dB_forgetAll_1 (am_tw kw_155 rfl) ?_
  refine kVN_D_forget dB_forgetAll_4 (am_tn kw_199 rfl) (Nat.le_of_ble_eq_true rfl) ⟨Nat.le_of_ble_eq_true rfl, Nat.le_of_ble_eq_true rfl⟩ ⟨Nat.le_of_ble_eq_true rfl, Nat.le_of_ble_eq_true rfl⟩ ⟨Nat.le_of_ble_eq_true rfl, Nat.le_of_ble_eq_true rfl⟩ hlt h (fun I1 J2 h => ?_)
  refine am_aload_n 0 dB_forgetAll_7 rfl rfl ?_
  refine go_B_requests dB_forgetAll_8 (am_tw kw_156 rfl) ?_
  refine kVN_R_forget dB_forgetAll_11 (am_tn kw_211 rfl) (Nat.le_of_ble_eq_true rfl) ⟨Nat.le_of_ble_eq_true rfl, Nat.le_of_ble_eq_true rfl⟩ ⟨Nat.le_of_ble_eq_true rfl, Nat.le_of_ble_eq_true rfl⟩ ⟨Nat.le_of_ble_eq_true rfl, Nat.le_of_ble_eq_true rfl⟩ hlt h (fun I4 J5 h => ?_)
  exact am_vret dB_forgetAll_14 rfl (Nat.le_of_ble_eq_true rfl) (Nat.le_of_ble_eq_true rfl) ⟨_, _, rfl, rfl, h⟩
section
variable {l : Launch} {D : va_G} {aC : Nat → ClassId} {ad : Nat → Nat} {own : String} {cc : ByteArray} {nL : Nat} {ret : Option FieldType} {ini : Bool} {tb : List (Nat × Nat × Nat × Nat)} {G : State → (Nat → Prop) → Prop} {rm : Room} {mc ms k n pc idx : Nat} {L : List (Nat × Value)} {st rest : List Value} {I : am_MI} {J : am_MJ} {Q : Option Value → va_W → Prop} {X : String → va_W → Prop}
theorem kV_B_forgetAll {K : am_MI → am_MJ → Prop} {X1 : String → am_MI → am_MJ → Prop} (hd : decode cc pc = .ok (.invokevirtual idx, 3)) (hlink : Cond.methodLink own idx yB_forgetAll ∈ am_TW) (hcat : (rest.map fun v => v.category).sum ≤ 8) (hR : 4 + 1 ≤ rm.frames ∧ 8 + (1 + 11) + 38 * 4 ≤ rm.locals) (hk : k + 1 ≤ rm.cells ∧ n + 6 ≤ rm.slots) (hm : k ≤ mc ∧ n ≤ ms) (hlt : l.stackTraces = false) (h : w_B_forgetAll I J K X1) (kk : ∀ (I1 : am_MI) (J1 : am_MJ), K I1 J1 → am l D aC own cc nL ret ini [] G rm mc ms k n (pc + 3) L rest (am_w ad aC I1 J1) Q (am_lx ad aC X1)) : am l D aC own cc nL ret ini [] G rm mc ms k n pc L (.ref (ad 0) :: rest) (am_w ad aC I J) Q (am_lx ad aC X1) := by
  refine am_callV 0 0 (As := []) (N9 := 0) (t_B_forgetAll hlt h) hd rfl (am_w_at ad aC I J (by omega)) rfl hlink (am_tw kw_198 rfl) (am_tw kw_197 rfl) ks_0 (am_tw kw_1 rfl) (by decide +kernel) rfl hcat ⟨rfl, rfl⟩ hR hk (fun E ws1 hx => am_out (fun x hx => nomatch hx) (Nat.add_le_add_right hm.1 1) (Nat.add_le_add_right hm.2 6) hx) ?_
  intro v ws1 hq
  obtain ⟨I1, J1, rfl, rfl, hq⟩ := hq
  exact kk I1 J1 hq
end
def w_B_newestImage_73 (x1 : Int32) (x2 : Int32) (I : am_MI) (J : am_MJ) (Q : Int32 → am_MI → am_MJ → Prop) (X : String → am_MI → am_MJ → Prop) : Prop :=
  (x1 = 0 → ((x2 = 0 → (Q (-1) I J)) ∧ (¬ (x2 = 0) → (Q 1 I J)))) ∧ (¬ (x1 = 0) → (Q 0 I J))
set_option maxRecDepth 20000 in
theorem t_B_newestImage_73 {l : Launch} {D : va_G} {aC : Nat → ClassId} {ad : Nat → Nat} (hlt : l.stackTraces = false) {x1 : Int32} {x2 : Int32} {I : am_MI} {J : am_MJ} {Q} {X} (h : w_B_newestImage_73 x1 x2 I J Q X) : am l D aC "BubbleBox" cB_newestImage 4 (some .int) false [] am_G0 (am_rm 4) 0 0 0 0 73 [(1, .int x1), (2, .int x2)] [] (am_w ad aC I J) (am_li ad aC Q) (am_lx ad aC X) := by
  unfold w_B_newestImage_73 at h
  refine am_iload_n 0 dB_newestImage_73 rfl rfl ?_
  refine am_if_eq 79 dB_newestImage_74 (by decide) (fun hc10 => ?_) (fun hc10 => ?_)
  · replace h := h.1 hc10
    refine am_iload_n 1 dB_newestImage_79 rfl rfl ?_
    refine am_if_eq 87 dB_newestImage_80 (by decide) (fun hc11 => ?_) (fun hc11 => ?_)
    · replace h := h.1 hc11
      refine am_iconst (v := (-1)) dB_newestImage_87 (by decide) ?_
      exact am_iret dB_newestImage_88 rfl (Nat.le_of_ble_eq_true rfl) (Nat.le_of_ble_eq_true rfl) ⟨_, _, _, rfl, rfl, h⟩
    · replace h := h.2 hc11
      refine am_iconst (v := 1) dB_newestImage_83 (by decide) ?_
      refine am_goto 88 dB_newestImage_84 (by decide) ?_
      exact am_iret dB_newestImage_88 rfl (Nat.le_of_ble_eq_true rfl) (Nat.le_of_ble_eq_true rfl) ⟨_, _, _, rfl, rfl, h⟩
  · replace h := h.2 hc10
    refine am_iconst (v := 0) dB_newestImage_77 (by decide) ?_
    exact am_iret dB_newestImage_78 rfl (Nat.le_of_ble_eq_true rfl) (Nat.le_of_ble_eq_true rfl) ⟨_, _, _, rfl, rfl, h⟩

def w_B_newestImage (I : am_MI) (J : am_MJ) (Q : Int32 → am_MI → am_MJ → Prop) (X : String → am_MI → am_MJ → Prop) : Prop :=
  vp_in (0 : Int32) 2 ∧ (w_I_isValid ((0 : Int32).toNatClampNeg) I J (fun (r4 : Int32) (I2 : am_MI) (J3 : am_MJ) => vp_in (1 : Int32) 2 ∧ (w_I_isValid ((1 : Int32).toNatClampNeg) I2 J3 (fun (r8 : Int32) (I6 : am_MI) (J7 : am_MJ) => (r4 = 0 → (w_B_newestImage_73 r4 r8 I6 J7 Q X)) ∧ (¬ (r4 = 0) → ((r8 = 0 → (w_B_newestImage_73 r4 r8 I6 J7 Q X)) ∧ (¬ (r8 = 0) → (vp_in (1 : Int32) 2 ∧ (w_I_number ((1 : Int32).toNatClampNeg) (0 : Int32) (1 : Int32) I6 J7 (fun (r16 : Int32) (I14 : am_MI) (J15 : am_MJ) => vp_in (0 : Int32) 2 ∧ (w_I_number ((0 : Int32).toNatClampNeg) (0 : Int32) (1 : Int32) I14 J15 (fun (r20 : Int32) (I18 : am_MI) (J19 : am_MJ) => (((r16 - r20) &&& (255 : Int32)) < (1 : Int32) → (Q 0 I18 J19)) ∧ (¬ (((r16 - r20) &&& (255 : Int32)) < (1 : Int32)) → (((127 : Int32) < ((r16 - r20) &&& (255 : Int32)) → (Q 0 I18 J19)) ∧ (¬ ((127 : Int32) < ((r16 - r20) &&& (255 : Int32))) → (Q 1 I18 J19))))) (fun _ _ _ => False))) (fun _ _ _ => False))))))) (fun _ _ _ => False))) (fun _ _ _ => False))
set_option maxRecDepth 20000 in
theorem t_B_newestImage {l : Launch} {D : va_G} {aC : Nat → ClassId} {ad : Nat → Nat} (hlt : l.stackTraces = false) {I : am_MI} {J : am_MJ} {Q} {X} (h : w_B_newestImage I J Q X) : am_c l D aC yB_newestImage (.code yB_newestImage cB_newestImage 4 (some .int)) (am_rm 4) 0 0 [.ref (ad 0)] (am_w ad aC I J) (am_li ad aC Q) (am_lx ad aC X) := by
  unfold w_B_newestImage at h
  refine am_of (ini := false) hlt (by decide +kernel) (Nat.le_of_ble_eq_true rfl) (fun h => nomatch h) ?_
  show am l D aC "BubbleBox" cB_newestImage 4 (some .int) false [] am_G0 (am_rm 4) 0 0 0 0 0 [(0, .ref (ad 0))] [] (am_w ad aC I J) (am_li ad aC Q) (am_lx ad aC X)
  refine am_aload_n 0 dB_newestImage_0 rfl rfl ?_
  refine go_B_images dB_newestImage_1 (am_tw kw_157 rfl) ?_
  refine am_iconst (v := 0) dB_newestImage_4 (by decide) ?_
  obtain ⟨hi1, h⟩ := h
  refine al_23 hi1 dB_newestImage_5 ?_
  refine kVN_I_isValid (am_lt hi1) dB_newestImage_6 (am_tn kw_308 rfl) (Nat.le_of_ble_eq_true rfl) ⟨Nat.le_of_ble_eq_true rfl, Nat.le_of_ble_eq_true rfl⟩ ⟨Nat.le_of_ble_eq_true rfl, Nat.le_of_ble_eq_true rfl⟩ ⟨Nat.le_of_ble_eq_true rfl, Nat.le_of_ble_eq_true rfl⟩ hlt h (fun r4 I2 J3 h => ?_)
  refine am_istore_n (L2 := [(1, .int r4), (0, .ref (ad 0))]) dB_newestImage_9 rfl (Nat.le_of_ble_eq_true rfl) rfl ?_
  refine am_aload_n 1 dB_newestImage_10 rfl rfl ?_
  refine go_B_images dB_newestImage_11 (am_tw kw_157 rfl) ?_
  refine am_iconst (v := 1) dB_newestImage_14 (by decide) ?_
  obtain ⟨hi5, h⟩ := h
  refine al_23 hi5 dB_newestImage_15 ?_
  refine kVN_I_isValid (am_lt hi5) dB_newestImage_16 (am_tn kw_308 rfl) (Nat.le_of_ble_eq_true rfl) ⟨Nat.le_of_ble_eq_true rfl, Nat.le_of_ble_eq_true rfl⟩ ⟨Nat.le_of_ble_eq_true rfl, Nat.le_of_ble_eq_true rfl⟩ ⟨Nat.le_of_ble_eq_true rfl, Nat.le_of_ble_eq_true rfl⟩ hlt h (fun r8 I6 J7 h => ?_)
  refine am_istore_n (L2 := [(2, .int r8), (1, .int r4), (0, .ref (ad 0))]) dB_newestImage_19 rfl (Nat.le_of_ble_eq_true rfl) rfl ?_
  refine am_iload_n 1 dB_newestImage_20 rfl rfl ?_
  refine am_if_eq 73 dB_newestImage_21 (by decide) (fun hc9 => ?_) (fun hc9 => ?_)
  · replace h := h.1 hc9
    exact am_sub [1, 0] rfl (t_B_newestImage_73 hlt h)
  · replace h := h.2 hc9
    refine am_iload_n 0 dB_newestImage_24 rfl rfl ?_
    refine am_if_eq 73 dB_newestImage_25 (by decide) (fun hc12 => ?_) (fun hc12 => ?_)
    · replace h := h.1 hc12
      exact am_sub [1, 0] rfl (t_B_newestImage_73 hlt h)
    · replace h := h.2 hc12
      refine am_aload_n 2 dB_newestImage_28 rfl rfl ?_
      refine go_B_images dB_newestImage_29 (am_tw kw_157 rfl) ?_
      refine am_iconst (v := 1) dB_newestImage_32 (by decide) ?_
      obtain ⟨hi13, h⟩ := h
      refine al_23 hi13 dB_newestImage_33 ?_
      refine am_iconst (v := 0) dB_newestImage_34 (by decide) ?_
      refine am_iconst (v := 1) dB_newestImage_35 (by decide) ?_
      refine kVN_I_number (am_lt hi13) dB_newestImage_36 (am_tn kw_320 rfl) (Nat.le_of_ble_eq_true rfl) ⟨Nat.le_of_ble_eq_true rfl, Nat.le_of_ble_eq_true rfl⟩ ⟨Nat.le_of_ble_eq_true rfl, Nat.le_of_ble_eq_true rfl⟩ ⟨Nat.le_of_ble_eq_true rfl, Nat.le_of_ble_eq_true rfl⟩ hlt h (fun r16 I14 J15 h => ?_)
      refine am_aload_n 2 dB_newestImage_39 rfl rfl ?_
      refine go_B_images dB_newestImage_40 (am_tw kw_157 rfl) ?_
      refine am_iconst (v := 0) dB_newestImage_43 (by decide) ?_
      obtain ⟨hi17, h⟩ := h
      refine al_23 hi17 dB_newestImage_44 ?_
      refine am_iconst (v := 0) dB_newestImage_45 (by decide) ?_
      refine am_iconst (v := 1) dB_newestImage_46 (by decide) ?_
      refine kVN_I_number (am_lt hi17) dB_newestImage_47 (am_tn kw_320 rfl) (Nat.le_of_ble_eq_true rfl) ⟨Nat.le_of_ble_eq_true rfl, Nat.le_of_ble_eq_true rfl⟩ ⟨Nat.le_of_ble_eq_true rfl, Nat.le_of_ble_eq_true rfl⟩ ⟨Nat.le_of_ble_eq_true rfl, Nat.le_of_ble_eq_true rfl⟩ hlt h (fun r20 I18 J19 h => ?_)
      refine am_isub dB_newestImage_50 ?_
      refine am_sipush (v := 255) dB_newestImage_51 (by decide) ?_
      refine am_iand dB_newestImage_54 ?_
      refine am_istore_n (L2 := [(3, .int ((r16 - r20) &&& (255 : Int32))), (2, .int r8), (1, .int r4), (0, .ref (ad 0))]) dB_newestImage_55 rfl (Nat.le_of_ble_eq_true rfl) rfl ?_
      refine am_iload_n 0 dB_newestImage_56 rfl rfl ?_
      refine am_iconst (v := 1) dB_newestImage_57 (by decide) ?_
      refine am_icmp_lt 71 dB_newestImage_58 (by decide) (fun hc21 => ?_) (fun hc21 => ?_)
      · replace h := h.1 hc21
        refine am_iconst (v := 0) dB_newestImage_71 (by decide) ?_
        exact am_iret dB_newestImage_72 rfl (Nat.le_of_ble_eq_true rfl) (Nat.le_of_ble_eq_true rfl) ⟨_, _, _, rfl, rfl, h⟩
      · replace h := h.2 hc21
        refine am_iload_n 0 dB_newestImage_61 rfl rfl ?_
        refine am_bipush (v := 127) dB_newestImage_62 (by decide) ?_
        refine am_icmp_gt 71 dB_newestImage_64 (by decide) (fun hc22 => ?_) (fun hc22 => ?_)
        · replace h := h.1 hc22
          refine am_iconst (v := 0) dB_newestImage_71 (by decide) ?_
          exact am_iret dB_newestImage_72 rfl (Nat.le_of_ble_eq_true rfl) (Nat.le_of_ble_eq_true rfl) ⟨_, _, _, rfl, rfl, h⟩
        · replace h := h.2 hc22
          refine am_iconst (v := 1) dB_newestImage_67 (by decide) ?_
          refine am_goto 72 dB_newestImage_68 (by decide) ?_
          exact am_iret dB_newestImage_72 rfl (Nat.le_of_ble_eq_true rfl) (Nat.le_of_ble_eq_true rfl) ⟨_, _, _, rfl, rfl, h⟩
section
variable {l : Launch} {D : va_G} {aC : Nat → ClassId} {ad : Nat → Nat} {own : String} {cc : ByteArray} {nL : Nat} {ret : Option FieldType} {ini : Bool} {tb : List (Nat × Nat × Nat × Nat)} {G : State → (Nat → Prop) → Prop} {rm : Room} {mc ms k n pc idx : Nat} {L : List (Nat × Value)} {st rest : List Value} {I : am_MI} {J : am_MJ} {Q : Option Value → va_W → Prop} {X : String → va_W → Prop}
theorem kV_B_newestImage {K : Int32 → am_MI → am_MJ → Prop} {X1 : String → am_MI → am_MJ → Prop} (hd : decode cc pc = .ok (.invokevirtual idx, 3)) (hlink : Cond.methodLink own idx yB_newestImage ∈ am_TW) (hcat : (rest.map fun v => v.category).sum ≤ 8) (hR : 4 + 1 ≤ rm.frames ∧ 8 + (4 + 11) + 38 * 4 ≤ rm.locals) (hk : k + 1 ≤ rm.cells ∧ n + 6 ≤ rm.slots) (hm : k ≤ mc ∧ n ≤ ms) (hlt : l.stackTraces = false) (h : w_B_newestImage I J K X1) (kk : ∀ (r : Int32) (I1 : am_MI) (J1 : am_MJ), K r I1 J1 → am l D aC own cc nL ret ini [] G rm mc ms k n (pc + 3) L (.int r :: rest) (am_w ad aC I1 J1) Q (am_lx ad aC X1)) : am l D aC own cc nL ret ini [] G rm mc ms k n pc L (.ref (ad 0) :: rest) (am_w ad aC I J) Q (am_lx ad aC X1) := by
  refine am_callV 0 0 (As := []) (N9 := 0) (t_B_newestImage hlt h) hd rfl (am_w_at ad aC I J (by omega)) rfl hlink (am_tw kw_307 rfl) (am_tw kw_306 rfl) ks_11 (am_tw kw_1 rfl) (by decide +kernel) rfl hcat ⟨rfl, rfl⟩ hR hk (fun E ws1 hx => am_out (fun x hx => nomatch hx) (Nat.add_le_add_right hm.1 1) (Nat.add_le_add_right hm.2 6) hx) ?_
  intro v ws1 hq
  obtain ⟨r, I1, J1, rfl, rfl, hq⟩ := hq
  exact kk r I1 J1 hq
end

def w_B_needMounted (I : am_MI) (J : am_MJ) (Q : am_MI → am_MJ → Prop) (X : String → am_MI → am_MJ → Prop) : Prop :=
  ((I 0 4) = (2 : Int32) → (Q I J)) ∧ (¬ ((I 0 4) = (2 : Int32)) → (X "java/lang/IllegalStateException" I J))
set_option maxRecDepth 20000 in
theorem t_B_needMounted {l : Launch} {D : va_G} {aC : Nat → ClassId} {ad : Nat → Nat} (hlt : l.stackTraces = false) {I : am_MI} {J : am_MJ} {Q} {X} (h : w_B_needMounted I J Q X) : am_c l D aC yB_needMounted (.code yB_needMounted cB_needMounted 1 none) (am_rm 8) 0 0 [.ref (ad 0)] (am_w ad aC I J) (am_lv ad aC Q) (am_lx ad aC X) := by
  unfold w_B_needMounted at h
  refine am_of (ini := false) hlt (by decide +kernel) (Nat.le_of_ble_eq_true rfl) (fun h => nomatch h) ?_
  show am l D aC "BubbleBox" cB_needMounted 1 none false [] am_G0 (am_rm 8) 0 0 0 0 0 [(0, .ref (ad 0))] [] (am_w ad aC I J) (am_lv ad aC Q) (am_lx ad aC X)
  refine am_aload_n 0 dB_needMounted_0 rfl rfl ?_
  refine go_B_condition dB_needMounted_1 (am_tw kw_158 rfl) ?_
  refine am_iconst (v := 2) dB_needMounted_4 (by decide) ?_
  refine am_icmp_eq 18 dB_needMounted_5 (by decide) (fun hc1 => ?_) (fun hc1 => ?_)
  · replace h := h.1 hc1
    exact am_vret dB_needMounted_18 rfl (Nat.le_of_ble_eq_true rfl) (Nat.le_of_ble_eq_true rfl) ⟨_, _, rfl, rfl, h⟩
  · replace h := h.2 hc1
    exact th_ise_209 dB_needMounted_8 dB_needMounted_11 dB_needMounted_12 dB_needMounted_14 dB_needMounted_17 (Nat.le_of_ble_eq_true rfl) ⟨_, _, rfl, h⟩
section
variable {l : Launch} {D : va_G} {aC : Nat → ClassId} {ad : Nat → Nat} {own : String} {cc : ByteArray} {nL : Nat} {ret : Option FieldType} {ini : Bool} {tb : List (Nat × Nat × Nat × Nat)} {G : State → (Nat → Prop) → Prop} {rm : Room} {mc ms k n pc idx : Nat} {L : List (Nat × Value)} {st rest : List Value} {I : am_MI} {J : am_MJ} {Q : Option Value → va_W → Prop} {X : String → va_W → Prop}
theorem kV_B_needMounted {K : am_MI → am_MJ → Prop} {X1 : String → am_MI → am_MJ → Prop} (hd : decode cc pc = .ok (.invokevirtual idx, 3)) (hlink : Cond.methodLink own idx yB_needMounted ∈ am_TW) (hcat : (rest.map fun v => v.category).sum ≤ 8) (hR : 8 + 1 ≤ rm.frames ∧ 8 + (1 + 11) + 38 * 8 ≤ rm.locals) (hk : k + 1 ≤ rm.cells ∧ n + 6 ≤ rm.slots) (hm : k ≤ mc ∧ n ≤ ms) (hlt : l.stackTraces = false) (h : w_B_needMounted I J K X1) (kk : ∀ (I1 : am_MI) (J1 : am_MJ), K I1 J1 → am l D aC own cc nL ret ini [] G rm mc ms k n (pc + 3) L rest (am_w ad aC I1 J1) Q (am_lx ad aC X1)) : am l D aC own cc nL ret ini [] G rm mc ms k n pc L (.ref (ad 0) :: rest) (am_w ad aC I J) Q (am_lx ad aC X1) := by
  refine am_callV 0 0 (As := []) (N9 := 0) (t_B_needMounted hlt h) hd rfl (am_w_at ad aC I J (by omega)) rfl hlink (am_tw kw_426 rfl) (am_tw kw_425 rfl) ks_28 (am_tw kw_1 rfl) (by decide +kernel) rfl hcat ⟨rfl, rfl⟩ hR hk (fun E ws1 hx => am_out (fun x hx => nomatch hx) (Nat.add_le_add_right hm.1 1) (Nat.add_le_add_right hm.2 6) hx) ?_
  intro v ws1 hq
  obtain ⟨I1, J1, rfl, rfl, hq⟩ := hq
  exact kk I1 J1 hq
end

def w_B_neededFreePage (I : am_MI) (J : am_MJ) (Q : Int32 → am_MI → am_MJ → Prop) (X : String → am_MI → am_MJ → Prop) : Prop :=
  w_D_leastFree I J (fun (r3 : Int32) (I1 : am_MI) (J2 : am_MJ) => (¬ r3 = ((-1) : Int32) → (Q r3 I1 J2)) ∧ (r3 = ((-1) : Int32) → (X "java/lang/UnsupportedOperationException" I1 J2))) (fun _ _ _ => False)
set_option maxRecDepth 20000 in
theorem t_B_neededFreePage {l : Launch} {D : va_G} {aC : Nat → ClassId} {ad : Nat → Nat} (hlt : l.stackTraces = false) {I : am_MI} {J : am_MJ} {Q} {X} (h : w_B_neededFreePage I J Q X) : am_c l D aC yB_neededFreePage (.code yB_neededFreePage cB_neededFreePage 2 (some .int)) (am_rm 8) 0 0 [.ref (ad 0)] (am_w ad aC I J) (am_li ad aC Q) (am_lx ad aC X) := by
  unfold w_B_neededFreePage at h
  refine am_of (ini := false) hlt (by decide +kernel) (Nat.le_of_ble_eq_true rfl) (fun h => nomatch h) ?_
  show am l D aC "BubbleBox" cB_neededFreePage 2 (some .int) false [] am_G0 (am_rm 8) 0 0 0 0 0 [(0, .ref (ad 0))] [] (am_w ad aC I J) (am_li ad aC Q) (am_lx ad aC X)
  refine am_aload_n 0 dB_neededFreePage_0 rfl rfl ?_
  refine go_B_directory dB_neededFreePage_1 (am_tw kw_155 rfl) ?_
  refine kVN_D_leastFree dB_neededFreePage_4 (am_tn kw_483 rfl) (Nat.le_of_ble_eq_true rfl) ⟨Nat.le_of_ble_eq_true rfl, Nat.le_of_ble_eq_true rfl⟩ ⟨Nat.le_of_ble_eq_true rfl, Nat.le_of_ble_eq_true rfl⟩ ⟨Nat.le_of_ble_eq_true rfl, Nat.le_of_ble_eq_true rfl⟩ hlt h (fun r3 I1 J2 h => ?_)
  refine am_istore_n (L2 := [(1, .int r3), (0, .ref (ad 0))]) dB_neededFreePage_7 rfl (Nat.le_of_ble_eq_true rfl) rfl ?_
  refine am_iload_n 0 dB_neededFreePage_8 rfl rfl ?_
  refine am_iconst (v := (-1)) dB_neededFreePage_9 (by decide) ?_
  refine am_icmp_ne 24 dB_neededFreePage_10 (by decide) (fun hc4 => ?_) (fun hc4 => ?_)
  · replace h := h.1 hc4
    refine am_iload_n 0 dB_neededFreePage_24 rfl rfl ?_
    exact am_iret dB_neededFreePage_25 rfl (Nat.le_of_ble_eq_true rfl) (Nat.le_of_ble_eq_true rfl) ⟨_, _, _, rfl, rfl, h⟩
  · replace h := h.2 hc4
    exact th_uoe_264 dB_neededFreePage_13 dB_neededFreePage_16 dB_neededFreePage_17 dB_neededFreePage_20 dB_neededFreePage_23 (Nat.le_of_ble_eq_true rfl) ⟨_, _, rfl, h⟩
section
variable {l : Launch} {D : va_G} {aC : Nat → ClassId} {ad : Nat → Nat} {own : String} {cc : ByteArray} {nL : Nat} {ret : Option FieldType} {ini : Bool} {tb : List (Nat × Nat × Nat × Nat)} {G : State → (Nat → Prop) → Prop} {rm : Room} {mc ms k n pc idx : Nat} {L : List (Nat × Value)} {st rest : List Value} {I : am_MI} {J : am_MJ} {Q : Option Value → va_W → Prop} {X : String → va_W → Prop}
theorem kV_B_neededFreePage {K : Int32 → am_MI → am_MJ → Prop} {X1 : String → am_MI → am_MJ → Prop} (hd : decode cc pc = .ok (.invokevirtual idx, 3)) (hlink : Cond.methodLink own idx yB_neededFreePage ∈ am_TW) (hcat : (rest.map fun v => v.category).sum ≤ 8) (hR : 8 + 1 ≤ rm.frames ∧ 8 + (2 + 11) + 38 * 8 ≤ rm.locals) (hk : k + 1 ≤ rm.cells ∧ n + 6 ≤ rm.slots) (hm : k ≤ mc ∧ n ≤ ms) (hlt : l.stackTraces = false) (h : w_B_neededFreePage I J K X1) (kk : ∀ (r : Int32) (I1 : am_MI) (J1 : am_MJ), K r I1 J1 → am l D aC own cc nL ret ini [] G rm mc ms k n (pc + 3) L (.int r :: rest) (am_w ad aC I1 J1) Q (am_lx ad aC X1)) : am l D aC own cc nL ret ini [] G rm mc ms k n pc L (.ref (ad 0) :: rest) (am_w ad aC I J) Q (am_lx ad aC X1) := by
  refine am_callV 0 0 (As := []) (N9 := 0) (t_B_neededFreePage hlt h) hd rfl (am_w_at ad aC I J (by omega)) rfl hlink (am_tw kw_482 rfl) (am_tw kw_481 rfl) ks_32 (am_tw kw_1 rfl) (by decide +kernel) rfl hcat ⟨rfl, rfl⟩ hR hk (fun E ws1 hx => am_out (fun x hx => nomatch hx) (Nat.add_le_add_right hm.1 1) (Nat.add_le_add_right hm.2 6) hx) ?_
  intro v ws1 hq
  obtain ⟨r, I1, J1, rfl, rfl, hq⟩ := hq
  exact kk r I1 J1 hq
end
def w_B_stuck_39 (x1 : Int32) (I : am_MI) (J : am_MJ) (Q : am_MI → am_MJ → Prop) (X : String → am_MI → am_MJ → Prop) : Prop :=
  ((I 1 2) = 0 → (vp_in x1 69 ∧ (Q (am_ui I 3 x1.toNatClampNeg (vp_nar .boolean (1 : Int32))) J))) ∧ (¬ ((I 1 2) = 0) → (X "java/lang/IllegalStateException" I J))
set_option maxRecDepth 20000 in
theorem t_B_stuck_39 {l : Launch} {D : va_G} {aC : Nat → ClassId} {ad : Nat → Nat} (hlt : l.stackTraces = false) {x1 : Int32} {I : am_MI} {J : am_MJ} {Q} {X} (h : w_B_stuck_39 x1 I J Q X) : am l D aC "BubbleBox" cB_stuck 3 none false [] am_G0 (am_rm 8) 0 0 0 0 39 [(0, .ref (ad 0)), (1, .int x1)] [] (am_w ad aC I J) (am_lv ad aC Q) (am_lx ad aC X) := by
  unfold w_B_stuck_39 at h
  refine am_aload_n 0 dB_stuck_39 rfl rfl ?_
  refine go_B_chip dB_stuck_40 (am_tw kw_154 rfl) ?_
  refine gn_C_mapped dB_stuck_43 (am_tn kw_34 rfl) ?_
  refine am_if_eq 59 dB_stuck_46 (by decide) (fun hc4 => ?_) (fun hc4 => ?_)
  · replace h := h.1 hc4
    refine am_aload_n 0 dB_stuck_59 rfl rfl ?_
    refine go_B_chip dB_stuck_60 (am_tw kw_154 rfl) ?_
    refine gn_C_bad dB_stuck_63 (am_tn kw_32 rfl) ?_
    refine am_iload_n 1 dB_stuck_66 rfl rfl ?_
    refine am_iconst (v := 1) dB_stuck_67 (by decide) ?_
    obtain ⟨hi5, h⟩ := h
    refine st_3 hi5 dB_stuck_68 ?_
    exact am_vret dB_stuck_69 rfl (Nat.le_of_ble_eq_true rfl) (Nat.le_of_ble_eq_true rfl) ⟨_, _, rfl, rfl, h⟩
  · replace h := h.2 hc4
    exact th_ise_65 dB_stuck_49 dB_stuck_52 dB_stuck_53 dB_stuck_55 dB_stuck_58 (Nat.le_of_ble_eq_true rfl) ⟨_, _, rfl, h⟩

def w_B_stuck (a0 : Int32) (a1 : Int32) (I : am_MI) (J : am_MJ) (Q : am_MI → am_MJ → Prop) (X : String → am_MI → am_MJ → Prop) : Prop :=
  (a0 < 0 → (X "java/lang/IllegalArgumentException" I J)) ∧ (¬ (a0 < 0) → ((a0 < (69 : Int32) → ((a1 = 0 → (w_B_stuck_39 a0 I J Q X)) ∧ (¬ (a1 = 0) → ((a1 = (1 : Int32) → (w_B_stuck_39 a0 I J Q X)) ∧ (¬ (a1 = (1 : Int32)) → (X "java/lang/IllegalArgumentException" I J)))))) ∧ (¬ (a0 < (69 : Int32)) → (X "java/lang/IllegalArgumentException" I J))))
set_option maxRecDepth 20000 in
theorem t_B_stuck {l : Launch} {D : va_G} {aC : Nat → ClassId} {ad : Nat → Nat} (hlt : l.stackTraces = false) {a0 : Int32} {a1 : Int32} {I : am_MI} {J : am_MJ} {Q} {X} (h : w_B_stuck a0 a1 I J Q X) : am_c l D aC yB_stuck (.code yB_stuck cB_stuck 3 none) (am_rm 8) 0 0 [.ref (ad 0), .int a0, .int a1] (am_w ad aC I J) (am_lv ad aC Q) (am_lx ad aC X) := by
  unfold w_B_stuck at h
  refine am_of (ini := false) hlt (by decide +kernel) (Nat.le_of_ble_eq_true rfl) (fun h => nomatch h) ?_
  show am l D aC "BubbleBox" cB_stuck 3 none false [] am_G0 (am_rm 8) 0 0 0 0 0 [(0, .ref (ad 0)), (1, .int a0), (2, .int a1)] [] (am_w ad aC I J) (am_lv ad aC Q) (am_lx ad aC X)
  refine am_iload_n 1 dB_stuck_0 rfl rfl ?_
  refine am_if_lt 10 dB_stuck_1 (by decide) (fun hc1 => ?_) (fun hc1 => ?_)
  · replace h := h.1 hc1
    exact th_iae_52 dB_stuck_10 dB_stuck_13 dB_stuck_14 dB_stuck_16 dB_stuck_19 (Nat.le_of_ble_eq_true rfl) ⟨_, _, rfl, h⟩
  · replace h := h.2 hc1
    refine am_iload_n 1 dB_stuck_4 rfl rfl ?_
    refine am_bipush (v := 69) dB_stuck_5 (by decide) ?_
    refine am_icmp_lt 20 dB_stuck_7 (by decide) (fun hc2 => ?_) (fun hc2 => ?_)
    · replace h := h.1 hc2
      refine am_iload_n 2 dB_stuck_20 rfl rfl ?_
      refine am_if_eq 39 dB_stuck_21 (by decide) (fun hc3 => ?_) (fun hc3 => ?_)
      · replace h := h.1 hc3
        exact am_sub [0, 1] rfl (t_B_stuck_39 hlt h)
      · replace h := h.2 hc3
        refine am_iload_n 2 dB_stuck_24 rfl rfl ?_
        refine am_iconst (v := 1) dB_stuck_25 (by decide) ?_
        refine am_icmp_eq 39 dB_stuck_26 (by decide) (fun hc6 => ?_) (fun hc6 => ?_)
        · replace h := h.1 hc6
          exact am_sub [0, 1] rfl (t_B_stuck_39 hlt h)
        · replace h := h.2 hc6
          exact th_iae_57 dB_stuck_29 dB_stuck_32 dB_stuck_33 dB_stuck_35 dB_stuck_38 (Nat.le_of_ble_eq_true rfl) ⟨_, _, rfl, h⟩
    · replace h := h.2 hc2
      exact th_iae_52 dB_stuck_10 dB_stuck_13 dB_stuck_14 dB_stuck_16 dB_stuck_19 (Nat.le_of_ble_eq_true rfl) ⟨_, _, rfl, h⟩
section
variable {l : Launch} {D : va_G} {aC : Nat → ClassId} {ad : Nat → Nat} {own : String} {cc : ByteArray} {nL : Nat} {ret : Option FieldType} {ini : Bool} {tb : List (Nat × Nat × Nat × Nat)} {G : State → (Nat → Prop) → Prop} {rm : Room} {mc ms k n pc idx : Nat} {L : List (Nat × Value)} {st rest : List Value} {I : am_MI} {J : am_MJ} {Q : Option Value → va_W → Prop} {X : String → va_W → Prop}
theorem kX_B_stuck {a0 : Int32} {a1 : Int32} {K : am_MI → am_MJ → Prop} {X1 : String → am_MI → am_MJ → Prop} (hd : decode cc pc = .ok (.invokevirtual idx, 3)) (hlink : Cond.methodLink own idx yB_stuck ∈ am_TW) (hcat : (rest.map fun v => v.category).sum ≤ 8) (hR : 8 + 1 ≤ rm.frames ∧ 8 + (3 + 11) + 38 * 8 ≤ rm.locals) (hk : k + 1 ≤ rm.cells ∧ n + 6 ≤ rm.slots) (hlt : l.stackTraces = false) (h : w_B_stuck a0 a1 I J K X1) (kx : ∀ (E : String) (I1 : am_MI) (J1 : am_MJ), X1 E I1 J1 → am_t l D aC own cc nL ret ini tb G rm mc ms (k + 1) (n + 6) pc L E (am_w ad aC I1 J1) Q X) (kk : ∀ (I1 : am_MI) (J1 : am_MJ), K I1 J1 → am l D aC own cc nL ret ini tb G rm mc ms k n (pc + 3) L rest (am_w ad aC I1 J1) Q X) : am l D aC own cc nL ret ini tb G rm mc ms k n pc L (.int a1 :: .int a0 :: .ref (ad 0) :: rest) (am_w ad aC I J) Q X := by
  refine am_callV 0 0 (As := [.int a0, .int a1]) (N9 := 2) (t_B_stuck hlt h) hd rfl (am_w_at ad aC I J (by omega)) rfl hlink (am_tw kw_349 rfl) (am_tw kw_347 rfl) (am_tw kw_348 rfl) (am_tw kw_1 rfl) (by decide +kernel) rfl hcat ⟨rfl, rfl⟩ hR hk (fun E ws1 hx => ?_) ?_
  · obtain ⟨I1, J1, rfl, hx⟩ := hx
    exact kx E I1 J1 hx
  · intro v ws1 hq
    obtain ⟨I1, J1, rfl, rfl, hq⟩ := hq
    exact kk I1 J1 hq
end

def w_B_usePower (I : am_MI) (J : am_MJ) (Q : am_MI → am_MJ → Prop) (X : String → am_MI → am_MJ → Prop) : Prop :=
  (¬ (I 0 5) = 0 → (((I 0 5) ≤ 0 → (Q I J)) ∧ (¬ ((I 0 5) ≤ 0) → (Q (am_ui I 0 5 ((I 0 5) - (1 : Int32))) J)))) ∧ ((I 0 5) = 0 → (X "java/lang/IllegalStateException" (am_ui I 0 4 (0 : Int32)) J))
set_option maxRecDepth 20000 in
theorem t_B_usePower {l : Launch} {D : va_G} {aC : Nat → ClassId} {ad : Nat → Nat} (hlt : l.stackTraces = false) {I : am_MI} {J : am_MJ} {Q} {X} (h : w_B_usePower I J Q X) : am_c l D aC yB_usePower (.code yB_usePower cB_usePower 1 none) (am_rm 8) 0 0 [.ref (ad 0)] (am_w ad aC I J) (am_lv ad aC Q) (am_lx ad aC X) := by
  unfold w_B_usePower at h
  refine am_of (ini := false) hlt (by decide +kernel) (Nat.le_of_ble_eq_true rfl) (fun h => nomatch h) ?_
  show am l D aC "BubbleBox" cB_usePower 1 none false [] am_G0 (am_rm 8) 0 0 0 0 0 [(0, .ref (ad 0))] [] (am_w ad aC I J) (am_lv ad aC Q) (am_lx ad aC X)
  refine am_aload_n 0 dB_usePower_0 rfl rfl ?_
  refine go_B_transfersLeft dB_usePower_1 (am_tw kw_159 rfl) ?_
  refine am_if_ne 22 dB_usePower_4 (by decide) (fun hc1 => ?_) (fun hc1 => ?_)
  · replace h := h.1 hc1
    refine am_aload_n 0 dB_usePower_22 rfl rfl ?_
    refine go_B_transfersLeft dB_usePower_23 (am_tw kw_159 rfl) ?_
    refine am_if_le 39 dB_usePower_26 (by decide) (fun hc2 => ?_) (fun hc2 => ?_)
    · replace h := h.1 hc2
      exact am_vret dB_usePower_39 rfl (Nat.le_of_ble_eq_true rfl) (Nat.le_of_ble_eq_true rfl) ⟨_, _, rfl, rfl, h⟩
    · replace h := h.2 hc2
      refine am_aload_n 0 dB_usePower_29 rfl rfl ?_
      refine am_dup dB_usePower_30 rfl ?_
      refine go_B_transfersLeft dB_usePower_31 (am_tw kw_159 rfl) ?_
      refine am_iconst (v := 1) dB_usePower_34 (by decide) ?_
      refine am_isub dB_usePower_35 ?_
      refine po_B_transfersLeft dB_usePower_36 (am_tw kw_159 rfl) ?_
      exact am_vret dB_usePower_39 rfl (Nat.le_of_ble_eq_true rfl) (Nat.le_of_ble_eq_true rfl) ⟨_, _, rfl, rfl, h⟩
  · replace h := h.2 hc1
    refine am_aload_n 0 dB_usePower_7 rfl rfl ?_
    refine am_iconst (v := 0) dB_usePower_8 (by decide) ?_
    refine po_B_condition dB_usePower_9 (am_tw kw_158 rfl) ?_
    exact th_ise_215 dB_usePower_12 dB_usePower_15 dB_usePower_16 dB_usePower_18 dB_usePower_21 (Nat.le_of_ble_eq_true rfl) ⟨_, _, rfl, h⟩
section
variable {l : Launch} {D : va_G} {aC : Nat → ClassId} {ad : Nat → Nat} {own : String} {cc : ByteArray} {nL : Nat} {ret : Option FieldType} {ini : Bool} {tb : List (Nat × Nat × Nat × Nat)} {G : State → (Nat → Prop) → Prop} {rm : Room} {mc ms k n pc idx : Nat} {L : List (Nat × Value)} {st rest : List Value} {I : am_MI} {J : am_MJ} {Q : Option Value → va_W → Prop} {X : String → va_W → Prop}
theorem kV_B_usePower {K : am_MI → am_MJ → Prop} {X1 : String → am_MI → am_MJ → Prop} (hd : decode cc pc = .ok (.invokevirtual idx, 3)) (hlink : Cond.methodLink own idx yB_usePower ∈ am_TW) (hcat : (rest.map fun v => v.category).sum ≤ 8) (hR : 8 + 1 ≤ rm.frames ∧ 8 + (1 + 11) + 38 * 8 ≤ rm.locals) (hk : k + 1 ≤ rm.cells ∧ n + 6 ≤ rm.slots) (hm : k ≤ mc ∧ n ≤ ms) (hlt : l.stackTraces = false) (h : w_B_usePower I J K X1) (kk : ∀ (I1 : am_MI) (J1 : am_MJ), K I1 J1 → am l D aC own cc nL ret ini [] G rm mc ms k n (pc + 3) L rest (am_w ad aC I1 J1) Q (am_lx ad aC X1)) : am l D aC own cc nL ret ini [] G rm mc ms k n pc L (.ref (ad 0) :: rest) (am_w ad aC I J) Q (am_lx ad aC X1) := by
  refine am_callV 0 0 (As := []) (N9 := 0) (t_B_usePower hlt h) hd rfl (am_w_at ad aC I J (by omega)) rfl hlink (am_tw kw_226 rfl) (am_tw kw_225 rfl) ks_7 (am_tw kw_1 rfl) (by decide +kernel) rfl hcat ⟨rfl, rfl⟩ hR hk (fun E ws1 hx => am_out (fun x hx => nomatch hx) (Nat.add_le_add_right hm.1 1) (Nat.add_le_add_right hm.2 6) hx) ?_
  intro v ws1 hq
  obtain ⟨I1, J1, rfl, rfl, hq⟩ := hq
  exact kk I1 J1 hq
end

def w_B_create (a0 : Int32) (I : am_MI) (J : am_MJ) (Q : Int32 → am_MI → am_MJ → Prop) (X : String → am_MI → am_MJ → Prop) : Prop :=
  w_B_needMounted I J (fun (I1 : am_MI) (J2 : am_MJ) => (a0 = 0 → (X "java/lang/IllegalArgumentException" I1 J2)) ∧ (¬ (a0 = 0) → (w_D_numberOf a0 I1 J2 (fun (r7 : Int32) (I5 : am_MI) (J6 : am_MJ) => (r7 = ((-1) : Int32) → (w_D_numberOf (0 : Int32) I5 J6 (fun (r11 : Int32) (I9 : am_MI) (J10 : am_MJ) => (¬ r11 = ((-1) : Int32) → (vp_in r11 8 ∧ (Q r11 (am_ui I9 (6 + r11.toNatClampNeg) 0 a0) J10))) ∧ (r11 = ((-1) : Int32) → (X "java/lang/UnsupportedOperationException" I9 J10))) (fun _ _ _ => False))) ∧ (¬ (r7 = ((-1) : Int32)) → (X "java/lang/IllegalArgumentException" I5 J6))) (fun _ _ _ => False)))) X
set_option maxRecDepth 20000 in
theorem t_B_create {l : Launch} {D : va_G} {aC : Nat → ClassId} {ad : Nat → Nat} (hlt : l.stackTraces = false) {a0 : Int32} {I : am_MI} {J : am_MJ} {Q} {X} (h : w_B_create a0 I J Q X) : am_c l D aC yB_create (.code yB_create cB_create 3 (some .int)) (am_rm 9) 0 0 [.ref (ad 0), .int a0] (am_w ad aC I J) (am_li ad aC Q) (am_lx ad aC X) := by
  unfold w_B_create at h
  refine am_of (ini := false) hlt (by decide +kernel) (Nat.le_of_ble_eq_true rfl) (fun h => nomatch h) ?_
  show am l D aC "BubbleBox" cB_create 3 (some .int) false [] am_G0 (am_rm 9) 0 0 0 0 0 [(0, .ref (ad 0)), (1, .int a0)] [] (am_w ad aC I J) (am_li ad aC Q) (am_lx ad aC X)
  refine am_aload_n 0 dB_create_0 rfl rfl ?_
  refine kV_B_needMounted dB_create_1 (am_tw kw_423 rfl) (Nat.le_of_ble_eq_true rfl) ⟨Nat.le_of_ble_eq_true rfl, Nat.le_of_ble_eq_true rfl⟩ ⟨Nat.le_of_ble_eq_true rfl, Nat.le_of_ble_eq_true rfl⟩ ⟨Nat.le_of_ble_eq_true rfl, Nat.le_of_ble_eq_true rfl⟩ hlt h (fun I1 J2 h => ?_)
  refine am_iload_n 1 dB_create_4 rfl rfl ?_
  refine am_if_eq 20 dB_create_5 (by decide) (fun hc4 => ?_) (fun hc4 => ?_)
  · replace h := h.1 hc4
    exact th_iae_114 dB_create_20 dB_create_23 dB_create_24 dB_create_26 dB_create_29 (Nat.le_of_ble_eq_true rfl) ⟨_, _, rfl, h⟩
  · replace h := h.2 hc4
    refine am_aload_n 0 dB_create_8 rfl rfl ?_
    refine go_B_directory dB_create_9 (am_tw kw_155 rfl) ?_
    refine am_iload_n 1 dB_create_12 rfl rfl ?_
    refine kVN_D_numberOf dB_create_13 (am_tn kw_428 rfl) (Nat.le_of_ble_eq_true rfl) ⟨Nat.le_of_ble_eq_true rfl, Nat.le_of_ble_eq_true rfl⟩ ⟨Nat.le_of_ble_eq_true rfl, Nat.le_of_ble_eq_true rfl⟩ ⟨Nat.le_of_ble_eq_true rfl, Nat.le_of_ble_eq_true rfl⟩ hlt h (fun r7 I5 J6 h => ?_)
    refine am_iconst (v := (-1)) dB_create_16 (by decide) ?_
    refine am_icmp_eq 30 dB_create_17 (by decide) (fun hc8 => ?_) (fun hc8 => ?_)
    · replace h := h.1 hc8
      refine am_aload_n 0 dB_create_30 rfl rfl ?_
      refine go_B_directory dB_create_31 (am_tw kw_155 rfl) ?_
      refine am_iconst (v := 0) dB_create_34 (by decide) ?_
      refine kVN_D_numberOf dB_create_35 (am_tn kw_428 rfl) (Nat.le_of_ble_eq_true rfl) ⟨Nat.le_of_ble_eq_true rfl, Nat.le_of_ble_eq_true rfl⟩ ⟨Nat.le_of_ble_eq_true rfl, Nat.le_of_ble_eq_true rfl⟩ ⟨Nat.le_of_ble_eq_true rfl, Nat.le_of_ble_eq_true rfl⟩ hlt h (fun r11 I9 J10 h => ?_)
      refine am_istore_n (L2 := [(2, .int r11), (0, .ref (ad 0)), (1, .int a0)]) dB_create_38 rfl (Nat.le_of_ble_eq_true rfl) rfl ?_
      refine am_iload_n 0 dB_create_39 rfl rfl ?_
      refine am_iconst (v := (-1)) dB_create_40 (by decide) ?_
      refine am_icmp_ne 54 dB_create_41 (by decide) (fun hc12 => ?_) (fun hc12 => ?_)
      · replace h := h.1 hc12
        refine am_aload_n 1 dB_create_54 rfl rfl ?_
        refine go_B_directory dB_create_55 (am_tw kw_155 rfl) ?_
        refine gn_D_entries dB_create_58 (am_tn kw_93 rfl) ?_
        refine am_iload_n 0 dB_create_61 rfl rfl ?_
        obtain ⟨hi13, h⟩ := h
        refine al_5 hi13 dB_create_62 ?_
        refine am_iload_n 2 dB_create_63 rfl rfl ?_
        refine pn_E_name (am_lt hi13) dB_create_64 (am_tn kw_66 rfl) ?_
        refine am_iload_n 0 dB_create_67 rfl rfl ?_
        exact am_iret dB_create_68 rfl (Nat.le_of_ble_eq_true rfl) (Nat.le_of_ble_eq_true rfl) ⟨_, _, _, rfl, rfl, h⟩
      · replace h := h.2 hc12
        exact th_uoe_118 dB_create_44 dB_create_47 dB_create_48 dB_create_50 dB_create_53 (Nat.le_of_ble_eq_true rfl) ⟨_, _, rfl, h⟩
    · replace h := h.2 hc8
      exact th_iae_114 dB_create_20 dB_create_23 dB_create_24 dB_create_26 dB_create_29 (Nat.le_of_ble_eq_true rfl) ⟨_, _, rfl, h⟩
section
variable {l : Launch} {D : va_G} {aC : Nat → ClassId} {ad : Nat → Nat} {own : String} {cc : ByteArray} {nL : Nat} {ret : Option FieldType} {ini : Bool} {tb : List (Nat × Nat × Nat × Nat)} {G : State → (Nat → Prop) → Prop} {rm : Room} {mc ms k n pc idx : Nat} {L : List (Nat × Value)} {st rest : List Value} {I : am_MI} {J : am_MJ} {Q : Option Value → va_W → Prop} {X : String → va_W → Prop}
theorem kX_B_create {a0 : Int32} {K : Int32 → am_MI → am_MJ → Prop} {X1 : String → am_MI → am_MJ → Prop} (hd : decode cc pc = .ok (.invokevirtual idx, 3)) (hlink : Cond.methodLink own idx yB_create ∈ am_TW) (hcat : (rest.map fun v => v.category).sum ≤ 8) (hR : 9 + 1 ≤ rm.frames ∧ 8 + (3 + 11) + 38 * 9 ≤ rm.locals) (hk : k + 1 ≤ rm.cells ∧ n + 6 ≤ rm.slots) (hlt : l.stackTraces = false) (h : w_B_create a0 I J K X1) (kx : ∀ (E : String) (I1 : am_MI) (J1 : am_MJ), X1 E I1 J1 → am_t l D aC own cc nL ret ini tb G rm mc ms (k + 1) (n + 6) pc L E (am_w ad aC I1 J1) Q X) (kk : ∀ (r : Int32) (I1 : am_MI) (J1 : am_MJ), K r I1 J1 → am l D aC own cc nL ret ini tb G rm mc ms k n (pc + 3) L (.int r :: rest) (am_w ad aC I1 J1) Q X) : am l D aC own cc nL ret ini tb G rm mc ms k n pc L (.int a0 :: .ref (ad 0) :: rest) (am_w ad aC I J) Q X := by
  refine am_callV 0 0 (As := [.int a0]) (N9 := 1) (t_B_create hlt h) hd rfl (am_w_at ad aC I J (by omega)) rfl hlink (am_tw kw_422 rfl) (am_tw kw_420 rfl) (am_tw kw_421 rfl) (am_tw kw_1 rfl) (by decide +kernel) rfl hcat ⟨rfl, rfl⟩ hR hk (fun E ws1 hx => ?_) ?_
  · obtain ⟨I1, J1, rfl, hx⟩ := hx
    exact kx E I1 J1 hx
  · intro v ws1 hq
    obtain ⟨r, I1, J1, rfl, rfl, hq⟩ := hq
    exact kk r I1 J1 hq
end

def w_B_entryOf (a0 : Int32) (I : am_MI) (J : am_MJ) (Q : Nat → am_MI → am_MJ → Prop) (X : String → am_MI → am_MJ → Prop) : Prop :=
  w_B_needMounted I J (fun (I1 : am_MI) (J2 : am_MJ) => (a0 < 0 → (X "java/lang/IllegalArgumentException" I1 J2)) ∧ (¬ (a0 < 0) → (((8 : Int32) ≤ a0 → (X "java/lang/IllegalArgumentException" I1 J2)) ∧ (¬ ((8 : Int32) ≤ a0) → (vp_in a0 8 ∧ ((¬ (I1 (6 + a0.toNatClampNeg) 0) = 0 → (vp_in a0 8 ∧ (Q a0.toNatClampNeg I1 J2))) ∧ ((I1 (6 + a0.toNatClampNeg) 0) = 0 → (X "java/lang/IllegalArgumentException" I1 J2)))))))) X
set_option maxRecDepth 20000 in
theorem t_B_entryOf {l : Launch} {D : va_G} {aC : Nat → ClassId} {ad : Nat → Nat} (hlt : l.stackTraces = false) {a0 : Int32} {I : am_MI} {J : am_MJ} {Q} {X} (h : w_B_entryOf a0 I J Q X) : am_c l D aC yB_entryOf (.code yB_entryOf cB_entryOf 2 (some (.object "BubbleBox$Entry"))) (am_rm 9) 0 0 [.ref (ad 0), .int a0] (am_w ad aC I J) (am_le ad aC Q) (am_lx ad aC X) := by
  unfold w_B_entryOf at h
  refine am_of (ini := false) hlt (by decide +kernel) (Nat.le_of_ble_eq_true rfl) (fun h => nomatch h) ?_
  show am l D aC "BubbleBox" cB_entryOf 2 (some (.object "BubbleBox$Entry")) false [] am_G0 (am_rm 9) 0 0 0 0 0 [(0, .ref (ad 0)), (1, .int a0)] [] (am_w ad aC I J) (am_le ad aC Q) (am_lx ad aC X)
  refine am_aload_n 0 dB_entryOf_0 rfl rfl ?_
  refine kV_B_needMounted dB_entryOf_1 (am_tw kw_423 rfl) (Nat.le_of_ble_eq_true rfl) ⟨Nat.le_of_ble_eq_true rfl, Nat.le_of_ble_eq_true rfl⟩ ⟨Nat.le_of_ble_eq_true rfl, Nat.le_of_ble_eq_true rfl⟩ ⟨Nat.le_of_ble_eq_true rfl, Nat.le_of_ble_eq_true rfl⟩ hlt h (fun I1 J2 h => ?_)
  refine am_iload_n 1 dB_entryOf_4 rfl rfl ?_
  refine am_if_lt 29 dB_entryOf_5 (by decide) (fun hc4 => ?_) (fun hc4 => ?_)
  · replace h := h.1 hc4
    exact th_iae_211 dB_entryOf_29 dB_entryOf_32 dB_entryOf_33 dB_entryOf_35 dB_entryOf_38 (Nat.le_of_ble_eq_true rfl) ⟨_, _, rfl, h⟩
  · replace h := h.2 hc4
    refine am_iload_n 1 dB_entryOf_8 rfl rfl ?_
    refine am_bipush (v := 8) dB_entryOf_9 (by decide) ?_
    refine am_icmp_ge 29 dB_entryOf_11 (by decide) (fun hc5 => ?_) (fun hc5 => ?_)
    · replace h := h.1 hc5
      exact th_iae_211 dB_entryOf_29 dB_entryOf_32 dB_entryOf_33 dB_entryOf_35 dB_entryOf_38 (Nat.le_of_ble_eq_true rfl) ⟨_, _, rfl, h⟩
    · replace h := h.2 hc5
      refine am_aload_n 0 dB_entryOf_14 rfl rfl ?_
      refine go_B_directory dB_entryOf_15 (am_tw kw_155 rfl) ?_
      refine gn_D_entries dB_entryOf_18 (am_tn kw_93 rfl) ?_
      refine am_iload_n 1 dB_entryOf_21 rfl rfl ?_
      obtain ⟨hi6, h⟩ := h
      refine al_5 hi6 dB_entryOf_22 ?_
      refine gn_E_name (am_lt hi6) dB_entryOf_23 (am_tn kw_66 rfl) ?_
      refine am_if_ne 39 dB_entryOf_26 (by decide) (fun hc7 => ?_) (fun hc7 => ?_)
      · replace h := h.1 hc7
        refine am_aload_n 0 dB_entryOf_39 rfl rfl ?_
        refine go_B_directory dB_entryOf_40 (am_tw kw_155 rfl) ?_
        refine gn_D_entries dB_entryOf_43 (am_tn kw_93 rfl) ?_
        refine am_iload_n 1 dB_entryOf_46 rfl rfl ?_
        obtain ⟨hi8, h⟩ := h
        refine al_5 hi8 dB_entryOf_47 ?_
        exact am_aret dB_entryOf_48 rfl (Nat.le_of_ble_eq_true rfl) (Nat.le_of_ble_eq_true rfl) ⟨_, _, _, (am_lt hi8), rfl, rfl, h⟩
      · replace h := h.2 hc7
        exact th_iae_211 dB_entryOf_29 dB_entryOf_32 dB_entryOf_33 dB_entryOf_35 dB_entryOf_38 (Nat.le_of_ble_eq_true rfl) ⟨_, _, rfl, h⟩
section
variable {l : Launch} {D : va_G} {aC : Nat → ClassId} {ad : Nat → Nat} {own : String} {cc : ByteArray} {nL : Nat} {ret : Option FieldType} {ini : Bool} {tb : List (Nat × Nat × Nat × Nat)} {G : State → (Nat → Prop) → Prop} {rm : Room} {mc ms k n pc idx : Nat} {L : List (Nat × Value)} {st rest : List Value} {I : am_MI} {J : am_MJ} {Q : Option Value → va_W → Prop} {X : String → va_W → Prop}
theorem kV_B_entryOf {a0 : Int32} {K : Nat → am_MI → am_MJ → Prop} {X1 : String → am_MI → am_MJ → Prop} (hd : decode cc pc = .ok (.invokevirtual idx, 3)) (hlink : Cond.methodLink own idx yB_entryOf ∈ am_TW) (hcat : (rest.map fun v => v.category).sum ≤ 8) (hR : 9 + 1 ≤ rm.frames ∧ 8 + (2 + 11) + 38 * 9 ≤ rm.locals) (hk : k + 1 ≤ rm.cells ∧ n + 6 ≤ rm.slots) (hm : k ≤ mc ∧ n ≤ ms) (hlt : l.stackTraces = false) (h : w_B_entryOf a0 I J K X1) (kk : ∀ (e : Nat) (I1 : am_MI) (J1 : am_MJ), e < 8 → K e I1 J1 → am l D aC own cc nL ret ini [] G rm mc ms k n (pc + 3) L (.ref (ad (6 + e)) :: rest) (am_w ad aC I1 J1) Q (am_lx ad aC X1)) : am l D aC own cc nL ret ini [] G rm mc ms k n pc L (.int a0 :: .ref (ad 0) :: rest) (am_w ad aC I J) Q (am_lx ad aC X1) := by
  refine am_callV 0 0 (As := [.int a0]) (N9 := 1) (t_B_entryOf hlt h) hd rfl (am_w_at ad aC I J (by omega)) rfl hlink (am_tw kw_466 rfl) (am_tw kw_465 rfl) ks_30 (am_tw kw_1 rfl) (by decide +kernel) rfl hcat ⟨rfl, rfl⟩ hR hk (fun E ws1 hx => am_out (fun x hx => nomatch hx) (Nat.add_le_add_right hm.1 1) (Nat.add_le_add_right hm.2 6) hx) ?_
  intro v ws1 hq
  obtain ⟨e, I1, J1, he, rfl, rfl, hq⟩ := hq
  exact kk e I1 J1 he hq
end

def w_B_find (a0 : Int32) (I : am_MI) (J : am_MJ) (Q : Int32 → am_MI → am_MJ → Prop) (X : String → am_MI → am_MJ → Prop) : Prop :=
  w_B_needMounted I J (fun (I1 : am_MI) (J2 : am_MJ) => (¬ a0 = 0 → (w_D_numberOf a0 I1 J2 (fun (r7 : Int32) (I5 : am_MI) (J6 : am_MJ) => Q r7 I5 J6) (fun _ _ _ => False))) ∧ (a0 = 0 → (Q (-1) I1 J2))) X
set_option maxRecDepth 20000 in
theorem t_B_find {l : Launch} {D : va_G} {aC : Nat → ClassId} {ad : Nat → Nat} (hlt : l.stackTraces = false) {a0 : Int32} {I : am_MI} {J : am_MJ} {Q} {X} (h : w_B_find a0 I J Q X) : am_c l D aC yB_find (.code yB_find cB_find 2 (some .int)) (am_rm 9) 0 0 [.ref (ad 0), .int a0] (am_w ad aC I J) (am_li ad aC Q) (am_lx ad aC X) := by
  unfold w_B_find at h
  refine am_of (ini := false) hlt (by decide +kernel) (Nat.le_of_ble_eq_true rfl) (fun h => nomatch h) ?_
  show am l D aC "BubbleBox" cB_find 2 (some .int) false [] am_G0 (am_rm 9) 0 0 0 0 0 [(0, .ref (ad 0)), (1, .int a0)] [] (am_w ad aC I J) (am_li ad aC Q) (am_lx ad aC X)
  refine am_aload_n 0 dB_find_0 rfl rfl ?_
  refine kV_B_needMounted dB_find_1 (am_tw kw_423 rfl) (Nat.le_of_ble_eq_true rfl) ⟨Nat.le_of_ble_eq_true rfl, Nat.le_of_ble_eq_true rfl⟩ ⟨Nat.le_of_ble_eq_true rfl, Nat.le_of_ble_eq_true rfl⟩ ⟨Nat.le_of_ble_eq_true rfl, Nat.le_of_ble_eq_true rfl⟩ hlt h (fun I1 J2 h => ?_)
  refine am_iload_n 1 dB_find_4 rfl rfl ?_
  refine am_if_ne 12 dB_find_5 (by decide) (fun hc4 => ?_) (fun hc4 => ?_)
  · replace h := h.1 hc4
    refine am_aload_n 0 dB_find_12 rfl rfl ?_
    refine go_B_directory dB_find_13 (am_tw kw_155 rfl) ?_
    refine am_iload_n 1 dB_find_16 rfl rfl ?_
    refine kVN_D_numberOf dB_find_17 (am_tn kw_428 rfl) (Nat.le_of_ble_eq_true rfl) ⟨Nat.le_of_ble_eq_true rfl, Nat.le_of_ble_eq_true rfl⟩ ⟨Nat.le_of_ble_eq_true rfl, Nat.le_of_ble_eq_true rfl⟩ ⟨Nat.le_of_ble_eq_true rfl, Nat.le_of_ble_eq_true rfl⟩ hlt h (fun r7 I5 J6 h => ?_)
    exact am_iret dB_find_20 rfl (Nat.le_of_ble_eq_true rfl) (Nat.le_of_ble_eq_true rfl) ⟨_, _, _, rfl, rfl, h⟩
  · replace h := h.2 hc4
    refine am_iconst (v := (-1)) dB_find_8 (by decide) ?_
    refine am_goto 20 dB_find_9 (by decide) ?_
    exact am_iret dB_find_20 rfl (Nat.le_of_ble_eq_true rfl) (Nat.le_of_ble_eq_true rfl) ⟨_, _, _, rfl, rfl, h⟩
section
variable {l : Launch} {D : va_G} {aC : Nat → ClassId} {ad : Nat → Nat} {own : String} {cc : ByteArray} {nL : Nat} {ret : Option FieldType} {ini : Bool} {tb : List (Nat × Nat × Nat × Nat)} {G : State → (Nat → Prop) → Prop} {rm : Room} {mc ms k n pc idx : Nat} {L : List (Nat × Value)} {st rest : List Value} {I : am_MI} {J : am_MJ} {Q : Option Value → va_W → Prop} {X : String → va_W → Prop}
theorem kX_B_find {a0 : Int32} {K : Int32 → am_MI → am_MJ → Prop} {X1 : String → am_MI → am_MJ → Prop} (hd : decode cc pc = .ok (.invokevirtual idx, 3)) (hlink : Cond.methodLink own idx yB_find ∈ am_TW) (hcat : (rest.map fun v => v.category).sum ≤ 8) (hR : 9 + 1 ≤ rm.frames ∧ 8 + (2 + 11) + 38 * 9 ≤ rm.locals) (hk : k + 1 ≤ rm.cells ∧ n + 6 ≤ rm.slots) (hlt : l.stackTraces = false) (h : w_B_find a0 I J K X1) (kx : ∀ (E : String) (I1 : am_MI) (J1 : am_MJ), X1 E I1 J1 → am_t l D aC own cc nL ret ini tb G rm mc ms (k + 1) (n + 6) pc L E (am_w ad aC I1 J1) Q X) (kk : ∀ (r : Int32) (I1 : am_MI) (J1 : am_MJ), K r I1 J1 → am l D aC own cc nL ret ini tb G rm mc ms k n (pc + 3) L (.int r :: rest) (am_w ad aC I1 J1) Q X) : am l D aC own cc nL ret ini tb G rm mc ms k n pc L (.int a0 :: .ref (ad 0) :: rest) (am_w ad aC I J) Q X := by
  refine am_callV 0 0 (As := [.int a0]) (N9 := 1) (t_B_find hlt h) hd rfl (am_w_at ad aC I J (by omega)) rfl hlink (am_tw kw_455 rfl) (am_tw kw_453 rfl) (am_tw kw_454 rfl) (am_tw kw_1 rfl) (by decide +kernel) rfl hcat ⟨rfl, rfl⟩ hR hk (fun E ws1 hx => ?_) ?_
  · obtain ⟨I1, J1, rfl, hx⟩ := hx
    exact kx E I1 J1 hx
  · intro v ws1 hq
    obtain ⟨r, I1, J1, rfl, rfl, hq⟩ := hq
    exact kk r I1 J1 hq
end

def w_B_free (I : am_MI) (J : am_MJ) (Q : Int32 → am_MI → am_MJ → Prop) (X : String → am_MI → am_MJ → Prop) : Prop :=
  w_B_needMounted I J (fun (I1 : am_MI) (J2 : am_MJ) => w_D_countFree I1 J2 (fun (r6 : Int32) (I4 : am_MI) (J5 : am_MJ) => Q r6 I4 J5) (fun _ _ _ => False)) X
set_option maxRecDepth 20000 in
theorem t_B_free {l : Launch} {D : va_G} {aC : Nat → ClassId} {ad : Nat → Nat} (hlt : l.stackTraces = false) {I : am_MI} {J : am_MJ} {Q} {X} (h : w_B_free I J Q X) : am_c l D aC yB_free (.code yB_free cB_free 1 (some .int)) (am_rm 9) 0 0 [.ref (ad 0)] (am_w ad aC I J) (am_li ad aC Q) (am_lx ad aC X) := by
  unfold w_B_free at h
  refine am_of (ini := false) hlt (by decide +kernel) (Nat.le_of_ble_eq_true rfl) (fun h => nomatch h) ?_
  show am l D aC "BubbleBox" cB_free 1 (some .int) false [] am_G0 (am_rm 9) 0 0 0 0 0 [(0, .ref (ad 0))] [] (am_w ad aC I J) (am_li ad aC Q) (am_lx ad aC X)
  refine am_aload_n 0 dB_free_0 rfl rfl ?_
  refine kV_B_needMounted dB_free_1 (am_tw kw_423 rfl) (Nat.le_of_ble_eq_true rfl) ⟨Nat.le_of_ble_eq_true rfl, Nat.le_of_ble_eq_true rfl⟩ ⟨Nat.le_of_ble_eq_true rfl, Nat.le_of_ble_eq_true rfl⟩ ⟨Nat.le_of_ble_eq_true rfl, Nat.le_of_ble_eq_true rfl⟩ hlt h (fun I1 J2 h => ?_)
  refine am_aload_n 0 dB_free_4 rfl rfl ?_
  refine go_B_directory dB_free_5 (am_tw kw_155 rfl) ?_
  refine kVN_D_countFree dB_free_8 (am_tn kw_592 rfl) (Nat.le_of_ble_eq_true rfl) ⟨Nat.le_of_ble_eq_true rfl, Nat.le_of_ble_eq_true rfl⟩ ⟨Nat.le_of_ble_eq_true rfl, Nat.le_of_ble_eq_true rfl⟩ ⟨Nat.le_of_ble_eq_true rfl, Nat.le_of_ble_eq_true rfl⟩ hlt h (fun r6 I4 J5 h => ?_)
  exact am_iret dB_free_11 rfl (Nat.le_of_ble_eq_true rfl) (Nat.le_of_ble_eq_true rfl) ⟨_, _, _, rfl, rfl, h⟩
section
variable {l : Launch} {D : va_G} {aC : Nat → ClassId} {ad : Nat → Nat} {own : String} {cc : ByteArray} {nL : Nat} {ret : Option FieldType} {ini : Bool} {tb : List (Nat × Nat × Nat × Nat)} {G : State → (Nat → Prop) → Prop} {rm : Room} {mc ms k n pc idx : Nat} {L : List (Nat × Value)} {st rest : List Value} {I : am_MI} {J : am_MJ} {Q : Option Value → va_W → Prop} {X : String → va_W → Prop}
theorem kX_B_free {K : Int32 → am_MI → am_MJ → Prop} {X1 : String → am_MI → am_MJ → Prop} (hd : decode cc pc = .ok (.invokevirtual idx, 3)) (hlink : Cond.methodLink own idx yB_free ∈ am_TW) (hcat : (rest.map fun v => v.category).sum ≤ 8) (hR : 9 + 1 ≤ rm.frames ∧ 8 + (1 + 11) + 38 * 9 ≤ rm.locals) (hk : k + 1 ≤ rm.cells ∧ n + 6 ≤ rm.slots) (hlt : l.stackTraces = false) (h : w_B_free I J K X1) (kx : ∀ (E : String) (I1 : am_MI) (J1 : am_MJ), X1 E I1 J1 → am_t l D aC own cc nL ret ini tb G rm mc ms (k + 1) (n + 6) pc L E (am_w ad aC I1 J1) Q X) (kk : ∀ (r : Int32) (I1 : am_MI) (J1 : am_MJ), K r I1 J1 → am l D aC own cc nL ret ini tb G rm mc ms k n (pc + 3) L (.int r :: rest) (am_w ad aC I1 J1) Q X) : am l D aC own cc nL ret ini tb G rm mc ms k n pc L (.ref (ad 0) :: rest) (am_w ad aC I J) Q X := by
  refine am_callV 0 0 (As := []) (N9 := 0) (t_B_free hlt h) hd rfl (am_w_at ad aC I J (by omega)) rfl hlink (am_tw kw_591 rfl) (am_tw kw_589 rfl) (am_tw kw_590 rfl) (am_tw kw_1 rfl) (by decide +kernel) rfl hcat ⟨rfl, rfl⟩ hR hk (fun E ws1 hx => ?_) ?_
  · obtain ⟨I1, J1, rfl, hx⟩ := hx
    exact kx E I1 J1 hx
  · intro v ws1 hq
    obtain ⟨r, I1, J1, rfl, rfl, hq⟩ := hq
    exact kk r I1 J1 hq
end

def w_B_queue (a0 : Int32) (a1 : Int32) (a2 : Int64) (I : am_MI) (J : am_MJ) (Q : Int32 → am_MI → am_MJ → Prop) (X : String → am_MI → am_MJ → Prop) : Prop :=
  w_B_needMounted I J (fun (I1 : am_MI) (J2 : am_MJ) => (a0 < 0 → (X "java/lang/IllegalArgumentException" I1 J2)) ∧ (¬ (a0 < 0) → ((a0 < (101 : Int32) → (((I1 17 5) < (16 : Int32) → (w_R_ask a0 a1 a2 I1 J2 (fun (r9 : Int32) (I7 : am_MI) (J8 : am_MJ) => Q r9 I7 J8) (fun _ _ _ => False))) ∧ (¬ ((I1 17 5) < (16 : Int32)) → (X "java/lang/UnsupportedOperationException" I1 J2)))) ∧ (¬ (a0 < (101 : Int32)) → (X "java/lang/IllegalArgumentException" I1 J2))))) X
set_option maxRecDepth 20000 in
theorem t_B_queue {l : Launch} {D : va_G} {aC : Nat → ClassId} {ad : Nat → Nat} (hlt : l.stackTraces = false) {a0 : Int32} {a1 : Int32} {a2 : Int64} {I : am_MI} {J : am_MJ} {Q} {X} (h : w_B_queue a0 a1 a2 I J Q X) : am_c l D aC yB_queue (.code yB_queue cB_queue 5 (some .int)) (am_rm 9) 0 0 [.ref (ad 0), .int a0, .int a1, .long a2] (am_w ad aC I J) (am_li ad aC Q) (am_lx ad aC X) := by
  unfold w_B_queue at h
  refine am_of (ini := false) hlt (by decide +kernel) (Nat.le_of_ble_eq_true rfl) (fun h => nomatch h) ?_
  show am l D aC "BubbleBox" cB_queue 5 (some .int) false [] am_G0 (am_rm 9) 0 0 0 0 0 [(0, .ref (ad 0)), (1, .int a0), (2, .int a1), (3, .long a2)] [] (am_w ad aC I J) (am_li ad aC Q) (am_lx ad aC X)
  refine am_aload_n 0 dB_queue_0 rfl rfl ?_
  refine kV_B_needMounted dB_queue_1 (am_tw kw_423 rfl) (Nat.le_of_ble_eq_true rfl) ⟨Nat.le_of_ble_eq_true rfl, Nat.le_of_ble_eq_true rfl⟩ ⟨Nat.le_of_ble_eq_true rfl, Nat.le_of_ble_eq_true rfl⟩ ⟨Nat.le_of_ble_eq_true rfl, Nat.le_of_ble_eq_true rfl⟩ hlt h (fun I1 J2 h => ?_)
  refine am_iload_n 1 dB_queue_4 rfl rfl ?_
  refine am_if_lt 14 dB_queue_5 (by decide) (fun hc4 => ?_) (fun hc4 => ?_)
  · replace h := h.1 hc4
    exact th_iae_178 dB_queue_14 dB_queue_17 dB_queue_18 dB_queue_20 dB_queue_23 (Nat.le_of_ble_eq_true rfl) ⟨_, _, rfl, h⟩
  · replace h := h.2 hc4
    refine am_iload_n 1 dB_queue_8 rfl rfl ?_
    refine am_bipush (v := 101) dB_queue_9 (by decide) ?_
    refine am_icmp_lt 24 dB_queue_11 (by decide) (fun hc5 => ?_) (fun hc5 => ?_)
    · replace h := h.1 hc5
      refine am_aload_n 0 dB_queue_24 rfl rfl ?_
      refine go_B_requests dB_queue_25 (am_tw kw_156 rfl) ?_
      refine gn_R_asked dB_queue_28 (am_tn kw_124 rfl) ?_
      refine am_bipush (v := 16) dB_queue_31 (by decide) ?_
      refine am_icmp_lt 46 dB_queue_33 (by decide) (fun hc6 => ?_) (fun hc6 => ?_)
      · replace h := h.1 hc6
        refine am_aload_n 0 dB_queue_46 rfl rfl ?_
        refine go_B_requests dB_queue_47 (am_tw kw_156 rfl) ?_
        refine am_iload_n 1 dB_queue_50 rfl rfl ?_
        refine am_iload_n 2 dB_queue_51 rfl rfl ?_
        refine am_lload_n 3 dB_queue_52 rfl rfl ?_
        refine kVN_R_ask dB_queue_53 (am_tn kw_612 rfl) (Nat.le_of_ble_eq_true rfl) ⟨Nat.le_of_ble_eq_true rfl, Nat.le_of_ble_eq_true rfl⟩ ⟨Nat.le_of_ble_eq_true rfl, Nat.le_of_ble_eq_true rfl⟩ ⟨Nat.le_of_ble_eq_true rfl, Nat.le_of_ble_eq_true rfl⟩ hlt h (fun r9 I7 J8 h => ?_)
        exact am_iret dB_queue_56 rfl (Nat.le_of_ble_eq_true rfl) (Nat.le_of_ble_eq_true rfl) ⟨_, _, _, rfl, rfl, h⟩
      · replace h := h.2 hc6
        exact th_uoe_183 dB_queue_36 dB_queue_39 dB_queue_40 dB_queue_42 dB_queue_45 (Nat.le_of_ble_eq_true rfl) ⟨_, _, rfl, h⟩
    · replace h := h.2 hc5
      exact th_iae_178 dB_queue_14 dB_queue_17 dB_queue_18 dB_queue_20 dB_queue_23 (Nat.le_of_ble_eq_true rfl) ⟨_, _, rfl, h⟩
section
variable {l : Launch} {D : va_G} {aC : Nat → ClassId} {ad : Nat → Nat} {own : String} {cc : ByteArray} {nL : Nat} {ret : Option FieldType} {ini : Bool} {tb : List (Nat × Nat × Nat × Nat)} {G : State → (Nat → Prop) → Prop} {rm : Room} {mc ms k n pc idx : Nat} {L : List (Nat × Value)} {st rest : List Value} {I : am_MI} {J : am_MJ} {Q : Option Value → va_W → Prop} {X : String → va_W → Prop}
theorem kX_B_queue {a0 : Int32} {a1 : Int32} {a2 : Int64} {K : Int32 → am_MI → am_MJ → Prop} {X1 : String → am_MI → am_MJ → Prop} (hd : decode cc pc = .ok (.invokevirtual idx, 3)) (hlink : Cond.methodLink own idx yB_queue ∈ am_TW) (hcat : (rest.map fun v => v.category).sum ≤ 8) (hR : 9 + 1 ≤ rm.frames ∧ 8 + (5 + 11) + 38 * 9 ≤ rm.locals) (hk : k + 1 ≤ rm.cells ∧ n + 6 ≤ rm.slots) (hlt : l.stackTraces = false) (h : w_B_queue a0 a1 a2 I J K X1) (kx : ∀ (E : String) (I1 : am_MI) (J1 : am_MJ), X1 E I1 J1 → am_t l D aC own cc nL ret ini tb G rm mc ms (k + 1) (n + 6) pc L E (am_w ad aC I1 J1) Q X) (kk : ∀ (r : Int32) (I1 : am_MI) (J1 : am_MJ), K r I1 J1 → am l D aC own cc nL ret ini tb G rm mc ms k n (pc + 3) L (.int r :: rest) (am_w ad aC I1 J1) Q X) : am l D aC own cc nL ret ini tb G rm mc ms k n pc L (.long a2 :: .int a1 :: .int a0 :: .ref (ad 0) :: rest) (am_w ad aC I J) Q X := by
  refine am_callV 0 0 (As := [.int a0, .int a1, .long a2]) (N9 := 3) (t_B_queue hlt h) hd rfl (am_w_at ad aC I J (by omega)) rfl hlink (am_tw kw_609 rfl) (am_tw kw_607 rfl) (am_tw kw_608 rfl) (am_tw kw_1 rfl) (by decide +kernel) rfl hcat ⟨rfl, rfl⟩ hR hk (fun E ws1 hx => ?_) ?_
  · obtain ⟨I1, J1, rfl, hx⟩ := hx
    exact kx E I1 J1 hx
  · intro v ws1 hq
    obtain ⟨r, I1, J1, rfl, rfl, hq⟩ := hq
    exact kk r I1 J1 hq
end

def w_B_readPage (a0 : Int32) (I : am_MI) (J : am_MJ) (Q : Int64 → am_MI → am_MJ → Prop) (X : String → am_MI → am_MJ → Prop) : Prop :=
  w_B_usePower I J (fun (I1 : am_MI) (J2 : am_MJ) => w_C_turnTo a0 I1 J2 (fun (I4 : am_MI) (J5 : am_MJ) => vp_in a0 101 ∧ (Q (J5 2 a0.toNatClampNeg) I4 J5)) (fun _ _ _ => False)) X
set_option maxRecDepth 20000 in
theorem t_B_readPage {l : Launch} {D : va_G} {aC : Nat → ClassId} {ad : Nat → Nat} (hlt : l.stackTraces = false) {a0 : Int32} {I : am_MI} {J : am_MJ} {Q} {X} (h : w_B_readPage a0 I J Q X) : am_c l D aC yB_readPage (.code yB_readPage cB_readPage 2 (some .long)) (am_rm 9) 0 0 [.ref (ad 0), .int a0] (am_w ad aC I J) (am_ll ad aC Q) (am_lx ad aC X) := by
  unfold w_B_readPage at h
  refine am_of (ini := false) hlt (by decide +kernel) (Nat.le_of_ble_eq_true rfl) (fun h => nomatch h) ?_
  show am l D aC "BubbleBox" cB_readPage 2 (some .long) false [] am_G0 (am_rm 9) 0 0 0 0 0 [(0, .ref (ad 0)), (1, .int a0)] [] (am_w ad aC I J) (am_ll ad aC Q) (am_lx ad aC X)
  refine am_aload_n 0 dB_readPage_0 rfl rfl ?_
  refine kV_B_usePower dB_readPage_1 (am_tw kw_223 rfl) (Nat.le_of_ble_eq_true rfl) ⟨Nat.le_of_ble_eq_true rfl, Nat.le_of_ble_eq_true rfl⟩ ⟨Nat.le_of_ble_eq_true rfl, Nat.le_of_ble_eq_true rfl⟩ ⟨Nat.le_of_ble_eq_true rfl, Nat.le_of_ble_eq_true rfl⟩ hlt h (fun I1 J2 h => ?_)
  refine am_aload_n 0 dB_readPage_4 rfl rfl ?_
  refine go_B_chip dB_readPage_5 (am_tw kw_154 rfl) ?_
  refine am_iload_n 1 dB_readPage_8 rfl rfl ?_
  refine kVN_C_turnTo dB_readPage_9 (am_tn kw_296 rfl) (Nat.le_of_ble_eq_true rfl) ⟨Nat.le_of_ble_eq_true rfl, Nat.le_of_ble_eq_true rfl⟩ ⟨Nat.le_of_ble_eq_true rfl, Nat.le_of_ble_eq_true rfl⟩ ⟨Nat.le_of_ble_eq_true rfl, Nat.le_of_ble_eq_true rfl⟩ hlt h (fun I4 J5 h => ?_)
  refine am_aload_n 0 dB_readPage_12 rfl rfl ?_
  refine go_B_chip dB_readPage_13 (am_tw kw_154 rfl) ?_
  refine gn_C_pages dB_readPage_16 (am_tn kw_30 rfl) ?_
  refine am_iload_n 1 dB_readPage_19 rfl rfl ?_
  obtain ⟨hi7, h⟩ := h
  refine ld_2 hi7 dB_readPage_20 ?_
  exact am_lret dB_readPage_21 rfl (Nat.le_of_ble_eq_true rfl) (Nat.le_of_ble_eq_true rfl) ⟨_, _, _, rfl, rfl, h⟩
section
variable {l : Launch} {D : va_G} {aC : Nat → ClassId} {ad : Nat → Nat} {own : String} {cc : ByteArray} {nL : Nat} {ret : Option FieldType} {ini : Bool} {tb : List (Nat × Nat × Nat × Nat)} {G : State → (Nat → Prop) → Prop} {rm : Room} {mc ms k n pc idx : Nat} {L : List (Nat × Value)} {st rest : List Value} {I : am_MI} {J : am_MJ} {Q : Option Value → va_W → Prop} {X : String → va_W → Prop}
theorem kV_B_readPage {a0 : Int32} {K : Int64 → am_MI → am_MJ → Prop} {X1 : String → am_MI → am_MJ → Prop} (hd : decode cc pc = .ok (.invokevirtual idx, 3)) (hlink : Cond.methodLink own idx yB_readPage ∈ am_TW) (hcat : (rest.map fun v => v.category).sum ≤ 8) (hR : 9 + 1 ≤ rm.frames ∧ 8 + (2 + 11) + 38 * 9 ≤ rm.locals) (hk : k + 1 ≤ rm.cells ∧ n + 6 ≤ rm.slots) (hm : k ≤ mc ∧ n ≤ ms) (hlt : l.stackTraces = false) (h : w_B_readPage a0 I J K X1) (kk : ∀ (r : Int64) (I1 : am_MI) (J1 : am_MJ), K r I1 J1 → am l D aC own cc nL ret ini [] G rm mc ms k n (pc + 3) L (.long r :: rest) (am_w ad aC I1 J1) Q (am_lx ad aC X1)) : am l D aC own cc nL ret ini [] G rm mc ms k n pc L (.int a0 :: .ref (ad 0) :: rest) (am_w ad aC I J) Q (am_lx ad aC X1) := by
  refine am_callV 0 0 (As := [.int a0]) (N9 := 1) (t_B_readPage hlt h) hd rfl (am_w_at ad aC I J (by omega)) rfl hlink (am_tw kw_222 rfl) (am_tw kw_221 rfl) ks_6 (am_tw kw_1 rfl) (by decide +kernel) rfl hcat ⟨rfl, rfl⟩ hR hk (fun E ws1 hx => am_out (fun x hx => nomatch hx) (Nat.add_le_add_right hm.1 1) (Nat.add_le_add_right hm.2 6) hx) ?_
  intro v ws1 hq
  obtain ⟨r, I1, J1, rfl, rfl, hq⟩ := hq
  exact kk r I1 J1 hq
end

def w_B_served (a0 : Int32) (I : am_MI) (J : am_MJ) (Q : Int64 → am_MI → am_MJ → Prop) (X : String → am_MI → am_MJ → Prop) : Prop :=
  w_B_needMounted I J (fun (I1 : am_MI) (J2 : am_MJ) => (a0 < 0 → (X "java/lang/IndexOutOfBoundsException" I1 J2)) ∧ (¬ (a0 < 0) → ((a0 < (I1 17 6) → (vp_in a0 16 ∧ (Q (J2 22 a0.toNatClampNeg) I1 J2))) ∧ (¬ (a0 < (I1 17 6)) → (X "java/lang/IndexOutOfBoundsException" I1 J2))))) X
set_option maxRecDepth 20000 in
theorem t_B_served {l : Launch} {D : va_G} {aC : Nat → ClassId} {ad : Nat → Nat} (hlt : l.stackTraces = false) {a0 : Int32} {I : am_MI} {J : am_MJ} {Q} {X} (h : w_B_served a0 I J Q X) : am_c l D aC yB_served (.code yB_served cB_served 2 (some .long)) (am_rm 9) 0 0 [.ref (ad 0), .int a0] (am_w ad aC I J) (am_ll ad aC Q) (am_lx ad aC X) := by
  unfold w_B_served at h
  refine am_of (ini := false) hlt (by decide +kernel) (Nat.le_of_ble_eq_true rfl) (fun h => nomatch h) ?_
  show am l D aC "BubbleBox" cB_served 2 (some .long) false [] am_G0 (am_rm 9) 0 0 0 0 0 [(0, .ref (ad 0)), (1, .int a0)] [] (am_w ad aC I J) (am_ll ad aC Q) (am_lx ad aC X)
  refine am_aload_n 0 dB_served_0 rfl rfl ?_
  refine kV_B_needMounted dB_served_1 (am_tw kw_423 rfl) (Nat.le_of_ble_eq_true rfl) ⟨Nat.le_of_ble_eq_true rfl, Nat.le_of_ble_eq_true rfl⟩ ⟨Nat.le_of_ble_eq_true rfl, Nat.le_of_ble_eq_true rfl⟩ ⟨Nat.le_of_ble_eq_true rfl, Nat.le_of_ble_eq_true rfl⟩ hlt h (fun I1 J2 h => ?_)
  refine am_iload_n 1 dB_served_4 rfl rfl ?_
  refine am_if_lt 19 dB_served_5 (by decide) (fun hc4 => ?_) (fun hc4 => ?_)
  · replace h := h.1 hc4
    exact th_ioobe_203 dB_served_19 dB_served_22 dB_served_23 dB_served_25 dB_served_28 (Nat.le_of_ble_eq_true rfl) ⟨_, _, rfl, h⟩
  · replace h := h.2 hc4
    refine am_iload_n 1 dB_served_8 rfl rfl ?_
    refine am_aload_n 0 dB_served_9 rfl rfl ?_
    refine go_B_requests dB_served_10 (am_tw kw_156 rfl) ?_
    refine gn_R_answered dB_served_13 (am_tn kw_126 rfl) ?_
    refine am_icmp_lt 29 dB_served_16 (by decide) (fun hc5 => ?_) (fun hc5 => ?_)
    · replace h := h.1 hc5
      refine am_aload_n 0 dB_served_29 rfl rfl ?_
      refine go_B_requests dB_served_30 (am_tw kw_156 rfl) ?_
      refine gn_R_answers dB_served_33 (am_tn kw_122 rfl) ?_
      refine am_iload_n 1 dB_served_36 rfl rfl ?_
      obtain ⟨hi6, h⟩ := h
      refine ld_22 hi6 dB_served_37 ?_
      exact am_lret dB_served_38 rfl (Nat.le_of_ble_eq_true rfl) (Nat.le_of_ble_eq_true rfl) ⟨_, _, _, rfl, rfl, h⟩
    · replace h := h.2 hc5
      exact th_ioobe_203 dB_served_19 dB_served_22 dB_served_23 dB_served_25 dB_served_28 (Nat.le_of_ble_eq_true rfl) ⟨_, _, rfl, h⟩
section
variable {l : Launch} {D : va_G} {aC : Nat → ClassId} {ad : Nat → Nat} {own : String} {cc : ByteArray} {nL : Nat} {ret : Option FieldType} {ini : Bool} {tb : List (Nat × Nat × Nat × Nat)} {G : State → (Nat → Prop) → Prop} {rm : Room} {mc ms k n pc idx : Nat} {L : List (Nat × Value)} {st rest : List Value} {I : am_MI} {J : am_MJ} {Q : Option Value → va_W → Prop} {X : String → va_W → Prop}
theorem kX_B_served {a0 : Int32} {K : Int64 → am_MI → am_MJ → Prop} {X1 : String → am_MI → am_MJ → Prop} (hd : decode cc pc = .ok (.invokevirtual idx, 3)) (hlink : Cond.methodLink own idx yB_served ∈ am_TW) (hcat : (rest.map fun v => v.category).sum ≤ 8) (hR : 9 + 1 ≤ rm.frames ∧ 8 + (2 + 11) + 38 * 9 ≤ rm.locals) (hk : k + 1 ≤ rm.cells ∧ n + 6 ≤ rm.slots) (hlt : l.stackTraces = false) (h : w_B_served a0 I J K X1) (kx : ∀ (E : String) (I1 : am_MI) (J1 : am_MJ), X1 E I1 J1 → am_t l D aC own cc nL ret ini tb G rm mc ms (k + 1) (n + 6) pc L E (am_w ad aC I1 J1) Q X) (kk : ∀ (r : Int64) (I1 : am_MI) (J1 : am_MJ), K r I1 J1 → am l D aC own cc nL ret ini tb G rm mc ms k n (pc + 3) L (.long r :: rest) (am_w ad aC I1 J1) Q X) : am l D aC own cc nL ret ini tb G rm mc ms k n pc L (.int a0 :: .ref (ad 0) :: rest) (am_w ad aC I J) Q X := by
  refine am_callV 0 0 (As := [.int a0]) (N9 := 1) (t_B_served hlt h) hd rfl (am_w_at ad aC I J (by omega)) rfl hlink (am_tw kw_643 rfl) (am_tw kw_641 rfl) (am_tw kw_642 rfl) (am_tw kw_1 rfl) (by decide +kernel) rfl hcat ⟨rfl, rfl⟩ hR hk (fun E ws1 hx => ?_) ?_
  · obtain ⟨I1, J1, rfl, hx⟩ := hx
    exact kx E I1 J1 hx
  · intro v ws1 hq
    obtain ⟨r, I1, J1, rfl, rfl, hq⟩ := hq
    exact kk r I1 J1 hq
end

def w_B_writePage (a0 : Int32) (a1 : Int64) (I : am_MI) (J : am_MJ) (Q : am_MI → am_MJ → Prop) (X : String → am_MI → am_MJ → Prop) : Prop :=
  w_B_usePower I J (fun (I1 : am_MI) (J2 : am_MJ) => w_C_turnTo a0 I1 J2 (fun (I4 : am_MI) (J5 : am_MJ) => vp_in a0 101 ∧ (Q I4 (am_uj J5 2 a0.toNatClampNeg a1))) (fun _ _ _ => False)) X
set_option maxRecDepth 20000 in
theorem t_B_writePage {l : Launch} {D : va_G} {aC : Nat → ClassId} {ad : Nat → Nat} (hlt : l.stackTraces = false) {a0 : Int32} {a1 : Int64} {I : am_MI} {J : am_MJ} {Q} {X} (h : w_B_writePage a0 a1 I J Q X) : am_c l D aC yB_writePage (.code yB_writePage cB_writePage 4 none) (am_rm 9) 0 0 [.ref (ad 0), .int a0, .long a1] (am_w ad aC I J) (am_lv ad aC Q) (am_lx ad aC X) := by
  unfold w_B_writePage at h
  refine am_of (ini := false) hlt (by decide +kernel) (Nat.le_of_ble_eq_true rfl) (fun h => nomatch h) ?_
  show am l D aC "BubbleBox" cB_writePage 4 none false [] am_G0 (am_rm 9) 0 0 0 0 0 [(0, .ref (ad 0)), (1, .int a0), (2, .long a1)] [] (am_w ad aC I J) (am_lv ad aC Q) (am_lx ad aC X)
  refine am_aload_n 0 dB_writePage_0 rfl rfl ?_
  refine kV_B_usePower dB_writePage_1 (am_tw kw_223 rfl) (Nat.le_of_ble_eq_true rfl) ⟨Nat.le_of_ble_eq_true rfl, Nat.le_of_ble_eq_true rfl⟩ ⟨Nat.le_of_ble_eq_true rfl, Nat.le_of_ble_eq_true rfl⟩ ⟨Nat.le_of_ble_eq_true rfl, Nat.le_of_ble_eq_true rfl⟩ hlt h (fun I1 J2 h => ?_)
  refine am_aload_n 0 dB_writePage_4 rfl rfl ?_
  refine go_B_chip dB_writePage_5 (am_tw kw_154 rfl) ?_
  refine am_iload_n 1 dB_writePage_8 rfl rfl ?_
  refine kVN_C_turnTo dB_writePage_9 (am_tn kw_296 rfl) (Nat.le_of_ble_eq_true rfl) ⟨Nat.le_of_ble_eq_true rfl, Nat.le_of_ble_eq_true rfl⟩ ⟨Nat.le_of_ble_eq_true rfl, Nat.le_of_ble_eq_true rfl⟩ ⟨Nat.le_of_ble_eq_true rfl, Nat.le_of_ble_eq_true rfl⟩ hlt h (fun I4 J5 h => ?_)
  refine am_aload_n 0 dB_writePage_12 rfl rfl ?_
  refine go_B_chip dB_writePage_13 (am_tw kw_154 rfl) ?_
  refine gn_C_pages dB_writePage_16 (am_tn kw_30 rfl) ?_
  refine am_iload_n 1 dB_writePage_19 rfl rfl ?_
  refine am_lload_n 2 dB_writePage_20 rfl rfl ?_
  obtain ⟨hi7, h⟩ := h
  refine st_2 hi7 dB_writePage_21 ?_
  exact am_vret dB_writePage_22 rfl (Nat.le_of_ble_eq_true rfl) (Nat.le_of_ble_eq_true rfl) ⟨_, _, rfl, rfl, h⟩
section
variable {l : Launch} {D : va_G} {aC : Nat → ClassId} {ad : Nat → Nat} {own : String} {cc : ByteArray} {nL : Nat} {ret : Option FieldType} {ini : Bool} {tb : List (Nat × Nat × Nat × Nat)} {G : State → (Nat → Prop) → Prop} {rm : Room} {mc ms k n pc idx : Nat} {L : List (Nat × Value)} {st rest : List Value} {I : am_MI} {J : am_MJ} {Q : Option Value → va_W → Prop} {X : String → va_W → Prop}
theorem kV_B_writePage {a0 : Int32} {a1 : Int64} {K : am_MI → am_MJ → Prop} {X1 : String → am_MI → am_MJ → Prop} (hd : decode cc pc = .ok (.invokevirtual idx, 3)) (hlink : Cond.methodLink own idx yB_writePage ∈ am_TW) (hcat : (rest.map fun v => v.category).sum ≤ 8) (hR : 9 + 1 ≤ rm.frames ∧ 8 + (4 + 11) + 38 * 9 ≤ rm.locals) (hk : k + 1 ≤ rm.cells ∧ n + 6 ≤ rm.slots) (hm : k ≤ mc ∧ n ≤ ms) (hlt : l.stackTraces = false) (h : w_B_writePage a0 a1 I J K X1) (kk : ∀ (I1 : am_MI) (J1 : am_MJ), K I1 J1 → am l D aC own cc nL ret ini [] G rm mc ms k n (pc + 3) L rest (am_w ad aC I1 J1) Q (am_lx ad aC X1)) : am l D aC own cc nL ret ini [] G rm mc ms k n pc L (.long a1 :: .int a0 :: .ref (ad 0) :: rest) (am_w ad aC I J) Q (am_lx ad aC X1) := by
  refine am_callV 0 0 (As := [.int a0, .long a1]) (N9 := 2) (t_B_writePage hlt h) hd rfl (am_w_at ad aC I J (by omega)) rfl hlink (am_tw kw_396 rfl) (am_tw kw_395 rfl) ks_23 (am_tw kw_1 rfl) (by decide +kernel) rfl hcat ⟨rfl, rfl⟩ hR hk (fun E ws1 hx => am_out (fun x hx => nomatch hx) (Nat.add_le_add_right hm.1 1) (Nat.add_le_add_right hm.2 6) hx) ?_
  intro v ws1 hq
  obtain ⟨I1, J1, rfl, rfl, hq⟩ := hq
  exact kk I1 J1 hq
end

def w_B_length (a0 : Int32) (I : am_MI) (J : am_MJ) (Q : Int32 → am_MI → am_MJ → Prop) (X : String → am_MI → am_MJ → Prop) : Prop :=
  w_B_entryOf a0 I J (fun (r3 : Nat) (I1 : am_MI) (J2 : am_MJ) => Q (I1 (6 + r3) 2) I1 J2) X
set_option maxRecDepth 20000 in
theorem t_B_length {l : Launch} {D : va_G} {aC : Nat → ClassId} {ad : Nat → Nat} (hlt : l.stackTraces = false) {a0 : Int32} {I : am_MI} {J : am_MJ} {Q} {X} (h : w_B_length a0 I J Q X) : am_c l D aC yB_length (.code yB_length cB_length 2 (some .int)) (am_rm 10) 0 0 [.ref (ad 0), .int a0] (am_w ad aC I J) (am_li ad aC Q) (am_lx ad aC X) := by
  unfold w_B_length at h
  refine am_of (ini := false) hlt (by decide +kernel) (Nat.le_of_ble_eq_true rfl) (fun h => nomatch h) ?_
  show am l D aC "BubbleBox" cB_length 2 (some .int) false [] am_G0 (am_rm 10) 0 0 0 0 0 [(0, .ref (ad 0)), (1, .int a0)] [] (am_w ad aC I J) (am_li ad aC Q) (am_lx ad aC X)
  refine am_aload_n 0 dB_length_0 rfl rfl ?_
  refine am_iload_n 1 dB_length_1 rfl rfl ?_
  refine kV_B_entryOf dB_length_2 (am_tw kw_463 rfl) (Nat.le_of_ble_eq_true rfl) ⟨Nat.le_of_ble_eq_true rfl, Nat.le_of_ble_eq_true rfl⟩ ⟨Nat.le_of_ble_eq_true rfl, Nat.le_of_ble_eq_true rfl⟩ ⟨Nat.le_of_ble_eq_true rfl, Nat.le_of_ble_eq_true rfl⟩ hlt h (fun r3 I1 J2 he4 h => ?_)
  refine gn_E_bytes he4 dB_length_5 (am_tn kw_71 rfl) ?_
  exact am_iret dB_length_8 rfl (Nat.le_of_ble_eq_true rfl) (Nat.le_of_ble_eq_true rfl) ⟨_, _, _, rfl, rfl, h⟩
section
variable {l : Launch} {D : va_G} {aC : Nat → ClassId} {ad : Nat → Nat} {own : String} {cc : ByteArray} {nL : Nat} {ret : Option FieldType} {ini : Bool} {tb : List (Nat × Nat × Nat × Nat)} {G : State → (Nat → Prop) → Prop} {rm : Room} {mc ms k n pc idx : Nat} {L : List (Nat × Value)} {st rest : List Value} {I : am_MI} {J : am_MJ} {Q : Option Value → va_W → Prop} {X : String → va_W → Prop}
theorem kX_B_length {a0 : Int32} {K : Int32 → am_MI → am_MJ → Prop} {X1 : String → am_MI → am_MJ → Prop} (hd : decode cc pc = .ok (.invokevirtual idx, 3)) (hlink : Cond.methodLink own idx yB_length ∈ am_TW) (hcat : (rest.map fun v => v.category).sum ≤ 8) (hR : 10 + 1 ≤ rm.frames ∧ 8 + (2 + 11) + 38 * 10 ≤ rm.locals) (hk : k + 1 ≤ rm.cells ∧ n + 6 ≤ rm.slots) (hlt : l.stackTraces = false) (h : w_B_length a0 I J K X1) (kx : ∀ (E : String) (I1 : am_MI) (J1 : am_MJ), X1 E I1 J1 → am_t l D aC own cc nL ret ini tb G rm mc ms (k + 1) (n + 6) pc L E (am_w ad aC I1 J1) Q X) (kk : ∀ (r : Int32) (I1 : am_MI) (J1 : am_MJ), K r I1 J1 → am l D aC own cc nL ret ini tb G rm mc ms k n (pc + 3) L (.int r :: rest) (am_w ad aC I1 J1) Q X) : am l D aC own cc nL ret ini tb G rm mc ms k n pc L (.int a0 :: .ref (ad 0) :: rest) (am_w ad aC I J) Q X := by
  refine am_callV 0 0 (As := [.int a0]) (N9 := 1) (t_B_length hlt h) hd rfl (am_w_at ad aC I J (by omega)) rfl hlink (am_tw kw_462 rfl) (am_tw kw_460 rfl) (am_tw kw_461 rfl) (am_tw kw_1 rfl) (by decide +kernel) rfl hcat ⟨rfl, rfl⟩ hR hk (fun E ws1 hx => ?_) ?_
  · obtain ⟨I1, J1, rfl, hx⟩ := hx
    exact kx E I1 J1 hx
  · intro v ws1 hq
    obtain ⟨r, I1, J1, rfl, rfl, hq⟩ := hq
    exact kk r I1 J1 hq
end

def w_B_pageOf (a0 : Int32) (a1 : Int32) (I : am_MI) (J : am_MJ) (Q : Int32 → am_MI → am_MJ → Prop) (X : String → am_MI → am_MJ → Prop) : Prop :=
  w_B_entryOf a0 I J (fun (r3 : Nat) (I1 : am_MI) (J2 : am_MJ) => (a1 < 0 → (Q (-1) I1 J2)) ∧ (¬ (a1 < 0) → (w_B_pagesFor (I1 (6 + r3) 2) I1 J2 (fun (r8 : Int32) (I6 : am_MI) (J7 : am_MJ) => (a1 < r8 → (w_D_pageAt r3 a1 I6 J7 (fun (r12 : Int32) (I10 : am_MI) (J11 : am_MJ) => Q r12 I10 J11) (fun _ _ _ => False))) ∧ (¬ (a1 < r8) → (Q (-1) I6 J7))) X))) X
set_option maxRecDepth 20000 in
theorem t_B_pageOf {l : Launch} {D : va_G} {aC : Nat → ClassId} {ad : Nat → Nat} (hlt : l.stackTraces = false) {a0 : Int32} {a1 : Int32} {I : am_MI} {J : am_MJ} {Q} {X} (h : w_B_pageOf a0 a1 I J Q X) : am_c l D aC yB_pageOf (.code yB_pageOf cB_pageOf 4 (some .int)) (am_rm 10) 0 0 [.ref (ad 0), .int a0, .int a1] (am_w ad aC I J) (am_li ad aC Q) (am_lx ad aC X) := by
  unfold w_B_pageOf at h
  refine am_of (ini := false) hlt (by decide +kernel) (Nat.le_of_ble_eq_true rfl) (fun h => nomatch h) ?_
  show am l D aC "BubbleBox" cB_pageOf 4 (some .int) false [] am_G0 (am_rm 10) 0 0 0 0 0 [(0, .ref (ad 0)), (1, .int a0), (2, .int a1)] [] (am_w ad aC I J) (am_li ad aC Q) (am_lx ad aC X)
  refine am_aload_n 0 dB_pageOf_0 rfl rfl ?_
  refine am_iload_n 1 dB_pageOf_1 rfl rfl ?_
  refine kV_B_entryOf dB_pageOf_2 (am_tw kw_463 rfl) (Nat.le_of_ble_eq_true rfl) ⟨Nat.le_of_ble_eq_true rfl, Nat.le_of_ble_eq_true rfl⟩ ⟨Nat.le_of_ble_eq_true rfl, Nat.le_of_ble_eq_true rfl⟩ ⟨Nat.le_of_ble_eq_true rfl, Nat.le_of_ble_eq_true rfl⟩ hlt h (fun r3 I1 J2 he4 h => ?_)
  refine am_astore_n (L2 := [(3, .ref (ad (6 + r3))), (0, .ref (ad 0)), (1, .int a0), (2, .int a1)]) dB_pageOf_5 rfl (Nat.le_of_ble_eq_true rfl) rfl ?_
  refine am_iload_n 3 dB_pageOf_6 rfl rfl ?_
  refine am_if_lt 21 dB_pageOf_7 (by decide) (fun hc5 => ?_) (fun hc5 => ?_)
  · replace h := h.1 hc5
    refine am_iconst (v := (-1)) dB_pageOf_21 (by decide) ?_
    exact am_iret dB_pageOf_22 rfl (Nat.le_of_ble_eq_true rfl) (Nat.le_of_ble_eq_true rfl) ⟨_, _, _, rfl, rfl, h⟩
  · replace h := h.2 hc5
    refine am_iload_n 3 dB_pageOf_10 rfl rfl ?_
    refine am_aload_n 0 dB_pageOf_11 rfl rfl ?_
    refine gn_E_bytes he4 dB_pageOf_12 (am_tn kw_71 rfl) ?_
    refine kS_B_pagesFor dB_pageOf_15 (am_tw kw_509 rfl) (Nat.le_of_ble_eq_true rfl) ⟨Nat.le_of_ble_eq_true rfl, Nat.le_of_ble_eq_true rfl⟩ ⟨Nat.le_of_ble_eq_true rfl, Nat.le_of_ble_eq_true rfl⟩ ⟨Nat.le_of_ble_eq_true rfl, Nat.le_of_ble_eq_true rfl⟩ hlt h (fun r8 I6 J7 h => ?_)
    refine am_icmp_lt 23 dB_pageOf_18 (by decide) (fun hc9 => ?_) (fun hc9 => ?_)
    · replace h := h.1 hc9
      refine am_aload_n 1 dB_pageOf_23 rfl rfl ?_
      refine go_B_directory dB_pageOf_24 (am_tw kw_155 rfl) ?_
      refine am_aload_n 0 dB_pageOf_27 rfl rfl ?_
      refine am_iload_n 3 dB_pageOf_28 rfl rfl ?_
      refine kVN_D_pageAt he4 dB_pageOf_29 (am_tn kw_510 rfl) (Nat.le_of_ble_eq_true rfl) ⟨Nat.le_of_ble_eq_true rfl, Nat.le_of_ble_eq_true rfl⟩ ⟨Nat.le_of_ble_eq_true rfl, Nat.le_of_ble_eq_true rfl⟩ ⟨Nat.le_of_ble_eq_true rfl, Nat.le_of_ble_eq_true rfl⟩ hlt h (fun r12 I10 J11 h => ?_)
      exact am_iret dB_pageOf_32 rfl (Nat.le_of_ble_eq_true rfl) (Nat.le_of_ble_eq_true rfl) ⟨_, _, _, rfl, rfl, h⟩
    · replace h := h.2 hc9
      refine am_iconst (v := (-1)) dB_pageOf_21 (by decide) ?_
      exact am_iret dB_pageOf_22 rfl (Nat.le_of_ble_eq_true rfl) (Nat.le_of_ble_eq_true rfl) ⟨_, _, _, rfl, rfl, h⟩
section
variable {l : Launch} {D : va_G} {aC : Nat → ClassId} {ad : Nat → Nat} {own : String} {cc : ByteArray} {nL : Nat} {ret : Option FieldType} {ini : Bool} {tb : List (Nat × Nat × Nat × Nat)} {G : State → (Nat → Prop) → Prop} {rm : Room} {mc ms k n pc idx : Nat} {L : List (Nat × Value)} {st rest : List Value} {I : am_MI} {J : am_MJ} {Q : Option Value → va_W → Prop} {X : String → va_W → Prop}
theorem kX_B_pageOf {a0 : Int32} {a1 : Int32} {K : Int32 → am_MI → am_MJ → Prop} {X1 : String → am_MI → am_MJ → Prop} (hd : decode cc pc = .ok (.invokevirtual idx, 3)) (hlink : Cond.methodLink own idx yB_pageOf ∈ am_TW) (hcat : (rest.map fun v => v.category).sum ≤ 8) (hR : 10 + 1 ≤ rm.frames ∧ 8 + (4 + 11) + 38 * 10 ≤ rm.locals) (hk : k + 1 ≤ rm.cells ∧ n + 6 ≤ rm.slots) (hlt : l.stackTraces = false) (h : w_B_pageOf a0 a1 I J K X1) (kx : ∀ (E : String) (I1 : am_MI) (J1 : am_MJ), X1 E I1 J1 → am_t l D aC own cc nL ret ini tb G rm mc ms (k + 1) (n + 6) pc L E (am_w ad aC I1 J1) Q X) (kk : ∀ (r : Int32) (I1 : am_MI) (J1 : am_MJ), K r I1 J1 → am l D aC own cc nL ret ini tb G rm mc ms k n (pc + 3) L (.int r :: rest) (am_w ad aC I1 J1) Q X) : am l D aC own cc nL ret ini tb G rm mc ms k n pc L (.int a1 :: .int a0 :: .ref (ad 0) :: rest) (am_w ad aC I J) Q X := by
  refine am_callV 0 0 (As := [.int a0, .int a1]) (N9 := 2) (t_B_pageOf hlt h) hd rfl (am_w_at ad aC I J (by omega)) rfl hlink (am_tw kw_602 rfl) (am_tw kw_600 rfl) (am_tw kw_601 rfl) (am_tw kw_1 rfl) (by decide +kernel) rfl hcat ⟨rfl, rfl⟩ hR hk (fun E ws1 hx => ?_) ?_
  · obtain ⟨I1, J1, rfl, hx⟩ := hx
    exact kx E I1 J1 hx
  · intro v ws1 hq
    obtain ⟨r, I1, J1, rfl, rfl, hq⟩ := hq
    exact kk r I1 J1 hq
end
def w_B_readImages_9 (x1 : Int32) (x2 : Int32) (I : am_MI) (J : am_MJ) (Q : am_MI → am_MJ → Prop) (X : String → am_MI → am_MJ → Prop) (P2 : Int32 → am_MI → am_MJ → Prop) : Prop :=
  ∀ P9 : Int32 → am_MI → am_MJ → Prop, (∀ (x2 : Int32) (I : am_MI) (J : am_MJ), (((20 : Int32) ≤ x2 → (P2 (x1 + 1) I J)) ∧ (¬ ((20 : Int32) ≤ x2) → (vp_in x1 2 ∧ (w_B_readPage ((x1 * (20 : Int32)) + x2) I J (fun (r6 : Int64) (I4 : am_MI) (J5 : am_MJ) => vp_in x2 20 ∧ (P9 (x2 + 1) I4 (am_uj J5 (25 + 2 * x1.toNatClampNeg) x2.toNatClampNeg r6))) X)))) → P9 x2 I J) → P9 x2 I J
set_option maxRecDepth 20000 in
theorem t_B_readImages_9 {l : Launch} {D : va_G} {aC : Nat → ClassId} {ad : Nat → Nat} (hlt : l.stackTraces = false) {x1 : Int32} {x2 : Int32} {I : am_MI} {J : am_MJ} {Q} {X} {P2 : Int32 → am_MI → am_MJ → Prop} (uP2 : ∀ (x1 : Int32) (I : am_MI) (J : am_MJ), P2 x1 I J → am l D aC "BubbleBox" cB_readImages 3 none false [] am_G0 (am_rm 10) 0 0 0 0 2 [(0, .ref (ad 0)), (1, .int x1)] [] (am_w ad aC I J) (am_lv ad aC Q) (am_lx ad aC X)) (h : w_B_readImages_9 x1 x2 I J Q X P2) : am l D aC "BubbleBox" cB_readImages 3 none false [] am_G0 (am_rm 10) 0 0 0 0 9 [(0, .ref (ad 0)), (1, .int x1), (2, .int x2)] [] (am_w ad aC I J) (am_lv ad aC Q) (am_lx ad aC X) := by
  unfold w_B_readImages_9 at h
  refine h (fun (x2 : Int32) (I : am_MI) (J : am_MJ) => am l D aC "BubbleBox" cB_readImages 3 none false [] am_G0 (am_rm 10) 0 0 0 0 9 [(0, .ref (ad 0)), (1, .int x1), (2, .int x2)] [] (am_w ad aC I J) (am_lv ad aC Q) (am_lx ad aC X)) (fun x2 I J h => ?_)
  refine am_iload_n 2 dB_readImages_9 rfl rfl ?_
  refine am_bipush (v := 20) dB_readImages_10 (by decide) ?_
  refine am_icmp_ge 42 dB_readImages_12 (by decide) (fun hc2 => ?_) (fun hc2 => ?_)
  · replace h := h.1 hc2
    refine am_iinc (j := 1) (v := x1 + 1) (L2 := [(1, .int (x1 + 1)), (0, .ref (ad 0)), (2, .int x2)]) dB_readImages_42 rfl (congrArg (x1 + ·) (by decide : Int32.ofInt (1) = 1)) (Nat.le_of_ble_eq_true rfl) rfl ?_
    refine am_goto 2 dB_readImages_45 (by decide) ?_
    exact am_sub [1, 0] rfl (uP2 _ _ _ h)
  · replace h := h.2 hc2
    refine am_aload_n 0 dB_readImages_15 rfl rfl ?_
    refine go_B_images dB_readImages_16 (am_tw kw_157 rfl) ?_
    refine am_iload_n 1 dB_readImages_19 rfl rfl ?_
    obtain ⟨hi3, h⟩ := h
    refine al_23 hi3 dB_readImages_20 ?_
    refine gn_I_pages (am_lt hi3) dB_readImages_21 (am_tn kw_150 rfl) ?_
    refine am_iload_n 2 dB_readImages_24 rfl rfl ?_
    refine am_aload_n 0 dB_readImages_25 rfl rfl ?_
    refine am_iload_n 1 dB_readImages_26 rfl rfl ?_
    refine am_bipush (v := 20) dB_readImages_27 (by decide) ?_
    refine am_imul dB_readImages_29 ?_
    refine am_iload_n 2 dB_readImages_30 rfl rfl ?_
    refine am_iadd dB_readImages_31 ?_
    refine kV_B_readPage dB_readImages_32 (am_tw kw_219 rfl) (Nat.le_of_ble_eq_true rfl) ⟨Nat.le_of_ble_eq_true rfl, Nat.le_of_ble_eq_true rfl⟩ ⟨Nat.le_of_ble_eq_true rfl, Nat.le_of_ble_eq_true rfl⟩ ⟨Nat.le_of_ble_eq_true rfl, Nat.le_of_ble_eq_true rfl⟩ hlt h (fun r6 I4 J5 h => ?_)
    obtain ⟨hi7, h⟩ := h
    refine st_im (am_lt hi3) hi7 dB_readImages_35 ?_
    refine am_iinc (j := 2) (v := x2 + 1) (L2 := [(2, .int (x2 + 1)), (0, .ref (ad 0)), (1, .int x1)]) dB_readImages_36 rfl (congrArg (x2 + ·) (by decide : Int32.ofInt (1) = 1)) (Nat.le_of_ble_eq_true rfl) rfl ?_
    refine am_goto 9 dB_readImages_39 (by decide) ?_
    exact am_sub [1, 2, 0] rfl h

def w_B_readImages_2 (x1 : Int32) (I : am_MI) (J : am_MJ) (Q : am_MI → am_MJ → Prop) (X : String → am_MI → am_MJ → Prop) : Prop :=
  ∀ P2 : Int32 → am_MI → am_MJ → Prop, (∀ (x1 : Int32) (I : am_MI) (J : am_MJ), (((2 : Int32) ≤ x1 → (Q I J)) ∧ (¬ ((2 : Int32) ≤ x1) → (w_B_readImages_9 x1 (0 : Int32) I J Q X P2))) → P2 x1 I J) → P2 x1 I J
set_option maxRecDepth 20000 in
theorem t_B_readImages_2 {l : Launch} {D : va_G} {aC : Nat → ClassId} {ad : Nat → Nat} (hlt : l.stackTraces = false) {x1 : Int32} {I : am_MI} {J : am_MJ} {Q} {X} (h : w_B_readImages_2 x1 I J Q X) : am l D aC "BubbleBox" cB_readImages 3 none false [] am_G0 (am_rm 10) 0 0 0 0 2 [(0, .ref (ad 0)), (1, .int x1)] [] (am_w ad aC I J) (am_lv ad aC Q) (am_lx ad aC X) := by
  unfold w_B_readImages_2 at h
  refine h (fun (x1 : Int32) (I : am_MI) (J : am_MJ) => am l D aC "BubbleBox" cB_readImages 3 none false [] am_G0 (am_rm 10) 0 0 0 0 2 [(0, .ref (ad 0)), (1, .int x1)] [] (am_w ad aC I J) (am_lv ad aC Q) (am_lx ad aC X)) (fun x1 I J h => ?_)
  refine am_iload_n 1 dB_readImages_2 rfl rfl ?_
  refine am_iconst (v := 2) dB_readImages_3 (by decide) ?_
  refine am_icmp_ge 48 dB_readImages_4 (by decide) (fun hc1 => ?_) (fun hc1 => ?_)
  · replace h := h.1 hc1
    exact am_vret dB_readImages_48 rfl (Nat.le_of_ble_eq_true rfl) (Nat.le_of_ble_eq_true rfl) ⟨_, _, rfl, rfl, h⟩
  · replace h := h.2 hc1
    refine am_iconst (v := 0) dB_readImages_7 (by decide) ?_
    refine am_istore_n (L2 := [(2, .int 0), (0, .ref (ad 0)), (1, .int x1)]) dB_readImages_8 rfl (Nat.le_of_ble_eq_true rfl) rfl ?_
    exact am_sub [1, 2, 0] rfl (t_B_readImages_9 hlt (fun _ _ _ h => h) h)

def w_B_readImages (I : am_MI) (J : am_MJ) (Q : am_MI → am_MJ → Prop) (X : String → am_MI → am_MJ → Prop) : Prop :=
  w_B_readImages_2 (0 : Int32) I J Q X
set_option maxRecDepth 20000 in
theorem t_B_readImages {l : Launch} {D : va_G} {aC : Nat → ClassId} {ad : Nat → Nat} (hlt : l.stackTraces = false) {I : am_MI} {J : am_MJ} {Q} {X} (h : w_B_readImages I J Q X) : am_c l D aC yB_readImages (.code yB_readImages cB_readImages 3 none) (am_rm 10) 0 0 [.ref (ad 0)] (am_w ad aC I J) (am_lv ad aC Q) (am_lx ad aC X) := by
  unfold w_B_readImages at h
  refine am_of (ini := false) hlt (by decide +kernel) (Nat.le_of_ble_eq_true rfl) (fun h => nomatch h) ?_
  show am l D aC "BubbleBox" cB_readImages 3 none false [] am_G0 (am_rm 10) 0 0 0 0 0 [(0, .ref (ad 0))] [] (am_w ad aC I J) (am_lv ad aC Q) (am_lx ad aC X)
  refine am_iconst (v := 0) dB_readImages_0 (by decide) ?_
  refine am_istore_n (L2 := [(1, .int 0), (0, .ref (ad 0))]) dB_readImages_1 rfl (Nat.le_of_ble_eq_true rfl) rfl ?_
  exact am_sub [1, 0] rfl (t_B_readImages_2 hlt h)
section
variable {l : Launch} {D : va_G} {aC : Nat → ClassId} {ad : Nat → Nat} {own : String} {cc : ByteArray} {nL : Nat} {ret : Option FieldType} {ini : Bool} {tb : List (Nat × Nat × Nat × Nat)} {G : State → (Nat → Prop) → Prop} {rm : Room} {mc ms k n pc idx : Nat} {L : List (Nat × Value)} {st rest : List Value} {I : am_MI} {J : am_MJ} {Q : Option Value → va_W → Prop} {X : String → va_W → Prop}
theorem kV_B_readImages {K : am_MI → am_MJ → Prop} {X1 : String → am_MI → am_MJ → Prop} (hd : decode cc pc = .ok (.invokevirtual idx, 3)) (hlink : Cond.methodLink own idx yB_readImages ∈ am_TW) (hcat : (rest.map fun v => v.category).sum ≤ 8) (hR : 10 + 1 ≤ rm.frames ∧ 8 + (3 + 11) + 38 * 10 ≤ rm.locals) (hk : k + 1 ≤ rm.cells ∧ n + 6 ≤ rm.slots) (hm : k ≤ mc ∧ n ≤ ms) (hlt : l.stackTraces = false) (h : w_B_readImages I J K X1) (kk : ∀ (I1 : am_MI) (J1 : am_MJ), K I1 J1 → am l D aC own cc nL ret ini [] G rm mc ms k n (pc + 3) L rest (am_w ad aC I1 J1) Q (am_lx ad aC X1)) : am l D aC own cc nL ret ini [] G rm mc ms k n pc L (.ref (ad 0) :: rest) (am_w ad aC I J) Q (am_lx ad aC X1) := by
  refine am_callV 0 0 (As := []) (N9 := 0) (t_B_readImages hlt h) hd rfl (am_w_at ad aC I J (by omega)) rfl hlink (am_tw kw_218 rfl) (am_tw kw_217 rfl) ks_5 (am_tw kw_1 rfl) (by decide +kernel) rfl hcat ⟨rfl, rfl⟩ hR hk (fun E ws1 hx => am_out (fun x hx => nomatch hx) (Nat.add_le_add_right hm.1 1) (Nat.add_le_add_right hm.2 6) hx) ?_
  intro v ws1 hq
  obtain ⟨I1, J1, rfl, rfl, hq⟩ := hq
  exact kk I1 J1 hq
end

def w_B_remove (a0 : Int32) (I : am_MI) (J : am_MJ) (Q : Int32 → am_MI → am_MJ → Prop) (X : String → am_MI → am_MJ → Prop) : Prop :=
  w_B_entryOf a0 I J (fun (r3 : Nat) (I1 : am_MI) (J2 : am_MJ) => w_D_shorten r3 (0 : Int32) I1 J2 (fun (r7 : Int32) (I5 : am_MI) (J6 : am_MJ) => w_E_forget r3 I5 J6 (fun (I8 : am_MI) (J9 : am_MJ) => Q r7 I8 J9) (fun _ _ _ => False)) (fun _ _ _ => False)) X
set_option maxRecDepth 20000 in
theorem t_B_remove {l : Launch} {D : va_G} {aC : Nat → ClassId} {ad : Nat → Nat} (hlt : l.stackTraces = false) {a0 : Int32} {I : am_MI} {J : am_MJ} {Q} {X} (h : w_B_remove a0 I J Q X) : am_c l D aC yB_remove (.code yB_remove cB_remove 4 (some .int)) (am_rm 10) 0 0 [.ref (ad 0), .int a0] (am_w ad aC I J) (am_li ad aC Q) (am_lx ad aC X) := by
  unfold w_B_remove at h
  refine am_of (ini := false) hlt (by decide +kernel) (Nat.le_of_ble_eq_true rfl) (fun h => nomatch h) ?_
  show am l D aC "BubbleBox" cB_remove 4 (some .int) false [] am_G0 (am_rm 10) 0 0 0 0 0 [(0, .ref (ad 0)), (1, .int a0)] [] (am_w ad aC I J) (am_li ad aC Q) (am_lx ad aC X)
  refine am_aload_n 0 dB_remove_0 rfl rfl ?_
  refine am_iload_n 1 dB_remove_1 rfl rfl ?_
  refine kV_B_entryOf dB_remove_2 (am_tw kw_463 rfl) (Nat.le_of_ble_eq_true rfl) ⟨Nat.le_of_ble_eq_true rfl, Nat.le_of_ble_eq_true rfl⟩ ⟨Nat.le_of_ble_eq_true rfl, Nat.le_of_ble_eq_true rfl⟩ ⟨Nat.le_of_ble_eq_true rfl, Nat.le_of_ble_eq_true rfl⟩ hlt h (fun r3 I1 J2 he4 h => ?_)
  refine am_astore_n (L2 := [(2, .ref (ad (6 + r3))), (0, .ref (ad 0)), (1, .int a0)]) dB_remove_5 rfl (Nat.le_of_ble_eq_true rfl) rfl ?_
  refine am_aload_n 1 dB_remove_6 rfl rfl ?_
  refine go_B_directory dB_remove_7 (am_tw kw_155 rfl) ?_
  refine am_aload_n 0 dB_remove_10 rfl rfl ?_
  refine am_iconst (v := 0) dB_remove_11 (by decide) ?_
  refine kVN_D_shorten he4 dB_remove_12 (am_tn kw_561 rfl) (Nat.le_of_ble_eq_true rfl) ⟨Nat.le_of_ble_eq_true rfl, Nat.le_of_ble_eq_true rfl⟩ ⟨Nat.le_of_ble_eq_true rfl, Nat.le_of_ble_eq_true rfl⟩ ⟨Nat.le_of_ble_eq_true rfl, Nat.le_of_ble_eq_true rfl⟩ hlt h (fun r7 I5 J6 h => ?_)
  refine am_istore_n (L2 := [(3, .int r7), (2, .ref (ad (6 + r3))), (0, .ref (ad 0)), (1, .int a0)]) dB_remove_15 rfl (Nat.le_of_ble_eq_true rfl) rfl ?_
  refine am_aload_n 1 dB_remove_16 rfl rfl ?_
  refine kVN_E_forget he4 dB_remove_17 (am_tn kw_577 rfl) (Nat.le_of_ble_eq_true rfl) ⟨Nat.le_of_ble_eq_true rfl, Nat.le_of_ble_eq_true rfl⟩ ⟨Nat.le_of_ble_eq_true rfl, Nat.le_of_ble_eq_true rfl⟩ ⟨Nat.le_of_ble_eq_true rfl, Nat.le_of_ble_eq_true rfl⟩ hlt h (fun I8 J9 h => ?_)
  refine am_iload_n 0 dB_remove_20 rfl rfl ?_
  exact am_iret dB_remove_21 rfl (Nat.le_of_ble_eq_true rfl) (Nat.le_of_ble_eq_true rfl) ⟨_, _, _, rfl, rfl, h⟩
section
variable {l : Launch} {D : va_G} {aC : Nat → ClassId} {ad : Nat → Nat} {own : String} {cc : ByteArray} {nL : Nat} {ret : Option FieldType} {ini : Bool} {tb : List (Nat × Nat × Nat × Nat)} {G : State → (Nat → Prop) → Prop} {rm : Room} {mc ms k n pc idx : Nat} {L : List (Nat × Value)} {st rest : List Value} {I : am_MI} {J : am_MJ} {Q : Option Value → va_W → Prop} {X : String → va_W → Prop}
theorem kX_B_remove {a0 : Int32} {K : Int32 → am_MI → am_MJ → Prop} {X1 : String → am_MI → am_MJ → Prop} (hd : decode cc pc = .ok (.invokevirtual idx, 3)) (hlink : Cond.methodLink own idx yB_remove ∈ am_TW) (hcat : (rest.map fun v => v.category).sum ≤ 8) (hR : 10 + 1 ≤ rm.frames ∧ 8 + (4 + 11) + 38 * 10 ≤ rm.locals) (hk : k + 1 ≤ rm.cells ∧ n + 6 ≤ rm.slots) (hlt : l.stackTraces = false) (h : w_B_remove a0 I J K X1) (kx : ∀ (E : String) (I1 : am_MI) (J1 : am_MJ), X1 E I1 J1 → am_t l D aC own cc nL ret ini tb G rm mc ms (k + 1) (n + 6) pc L E (am_w ad aC I1 J1) Q X) (kk : ∀ (r : Int32) (I1 : am_MI) (J1 : am_MJ), K r I1 J1 → am l D aC own cc nL ret ini tb G rm mc ms k n (pc + 3) L (.int r :: rest) (am_w ad aC I1 J1) Q X) : am l D aC own cc nL ret ini tb G rm mc ms k n pc L (.int a0 :: .ref (ad 0) :: rest) (am_w ad aC I J) Q X := by
  refine am_callV 0 0 (As := [.int a0]) (N9 := 1) (t_B_remove hlt h) hd rfl (am_w_at ad aC I J (by omega)) rfl hlink (am_tw kw_576 rfl) (am_tw kw_574 rfl) (am_tw kw_575 rfl) (am_tw kw_1 rfl) (by decide +kernel) rfl hcat ⟨rfl, rfl⟩ hR hk (fun E ws1 hx => ?_) ?_
  · obtain ⟨I1, J1, rfl, hx⟩ := hx
    exact kx E I1 J1 hx
  · intro v ws1 hq
    obtain ⟨r, I1, J1, rfl, rfl, hq⟩ := hq
    exact kk r I1 J1 hq
end

def w_B_save (e1 : Nat) (I : am_MI) (J : am_MJ) (Q : am_MI → am_MJ → Prop) (X : String → am_MI → am_MJ → Prop) : Prop :=
  ((I (6 + e1) 5) = 0 → (Q I J)) ∧ (¬ ((I (6 + e1) 5) = 0) → (w_B_writePage (I (6 + e1) 3) (J (6 + e1) 4) I J (fun (I2 : am_MI) (J3 : am_MJ) => Q (am_ui I2 (6 + e1) 5 (0 : Int32)) J3) X))
set_option maxRecDepth 20000 in
theorem t_B_save {l : Launch} {D : va_G} {aC : Nat → ClassId} {ad : Nat → Nat} (hlt : l.stackTraces = false) {e1 : Nat} (he1 : e1 < 8) {I : am_MI} {J : am_MJ} {Q} {X} (h : w_B_save e1 I J Q X) : am_c l D aC yB_save (.code yB_save cB_save 2 none) (am_rm 10) 0 0 [.ref (ad 0), .ref (ad (6 + e1))] (am_w ad aC I J) (am_lv ad aC Q) (am_lx ad aC X) := by
  unfold w_B_save at h
  refine am_of (ini := false) hlt (by decide +kernel) (Nat.le_of_ble_eq_true rfl) (fun h => nomatch h) ?_
  show am l D aC "BubbleBox" cB_save 2 none false [] am_G0 (am_rm 10) 0 0 0 0 0 [(0, .ref (ad 0)), (1, .ref (ad (6 + e1)))] [] (am_w ad aC I J) (am_lv ad aC Q) (am_lx ad aC X)
  refine am_aload_n 1 dB_save_0 rfl rfl ?_
  refine gn_E_changed he1 dB_save_1 (am_tn kw_78 rfl) ?_
  refine am_if_eq 24 dB_save_4 (by decide) (fun hc1 => ?_) (fun hc1 => ?_)
  · replace h := h.1 hc1
    exact am_vret dB_save_24 rfl (Nat.le_of_ble_eq_true rfl) (Nat.le_of_ble_eq_true rfl) ⟨_, _, rfl, rfl, h⟩
  · replace h := h.2 hc1
    refine am_aload_n 0 dB_save_7 rfl rfl ?_
    refine am_aload_n 1 dB_save_8 rfl rfl ?_
    refine gn_E_windowPage he1 dB_save_9 (am_tn kw_74 rfl) ?_
    refine am_aload_n 1 dB_save_12 rfl rfl ?_
    refine gn_E_windowBits he1 dB_save_13 (am_tn kw_76 rfl) ?_
    refine kV_B_writePage dB_save_16 (am_tw kw_393 rfl) (Nat.le_of_ble_eq_true rfl) ⟨Nat.le_of_ble_eq_true rfl, Nat.le_of_ble_eq_true rfl⟩ ⟨Nat.le_of_ble_eq_true rfl, Nat.le_of_ble_eq_true rfl⟩ ⟨Nat.le_of_ble_eq_true rfl, Nat.le_of_ble_eq_true rfl⟩ hlt h (fun I2 J3 h => ?_)
    refine am_aload_n 1 dB_save_19 rfl rfl ?_
    refine am_iconst (v := 0) dB_save_20 (by decide) ?_
    refine pn_E_changed he1 dB_save_21 (am_tn kw_78 rfl) (by decide) ?_
    exact am_vret dB_save_24 rfl (Nat.le_of_ble_eq_true rfl) (Nat.le_of_ble_eq_true rfl) ⟨_, _, rfl, rfl, h⟩
section
variable {l : Launch} {D : va_G} {aC : Nat → ClassId} {ad : Nat → Nat} {own : String} {cc : ByteArray} {nL : Nat} {ret : Option FieldType} {ini : Bool} {tb : List (Nat × Nat × Nat × Nat)} {G : State → (Nat → Prop) → Prop} {rm : Room} {mc ms k n pc idx : Nat} {L : List (Nat × Value)} {st rest : List Value} {I : am_MI} {J : am_MJ} {Q : Option Value → va_W → Prop} {X : String → va_W → Prop}
theorem kV_B_save {e1 : Nat} {K : am_MI → am_MJ → Prop} {X1 : String → am_MI → am_MJ → Prop} (he1 : e1 < 8) (hd : decode cc pc = .ok (.invokevirtual idx, 3)) (hlink : Cond.methodLink own idx yB_save ∈ am_TW) (hcat : (rest.map fun v => v.category).sum ≤ 8) (hR : 10 + 1 ≤ rm.frames ∧ 8 + (2 + 11) + 38 * 10 ≤ rm.locals) (hk : k + 1 ≤ rm.cells ∧ n + 6 ≤ rm.slots) (hm : k ≤ mc ∧ n ≤ ms) (hlt : l.stackTraces = false) (h : w_B_save e1 I J K X1) (kk : ∀ (I1 : am_MI) (J1 : am_MJ), K I1 J1 → am l D aC own cc nL ret ini [] G rm mc ms k n (pc + 3) L rest (am_w ad aC I1 J1) Q (am_lx ad aC X1)) : am l D aC own cc nL ret ini [] G rm mc ms k n pc L (.ref (ad (6 + e1)) :: .ref (ad 0) :: rest) (am_w ad aC I J) Q (am_lx ad aC X1) := by
  refine am_callV 0 0 (As := [.ref (ad (6 + e1))]) (N9 := 1) (t_B_save hlt he1 h) hd rfl (am_w_at ad aC I J (by omega)) rfl hlink (am_tw kw_392 rfl) (am_tw kw_391 rfl) ks_22 (am_tw kw_1 rfl) (by decide +kernel) rfl hcat ⟨rfl, rfl⟩ hR hk (fun E ws1 hx => am_out (fun x hx => nomatch hx) (Nat.add_le_add_right hm.1 1) (Nat.add_le_add_right hm.2 6) hx) ?_
  intro v ws1 hq
  obtain ⟨I1, J1, rfl, rfl, hq⟩ := hq
  exact kk I1 J1 hq
end

def w_B_transferAsked (a0 : Int32) (I : am_MI) (J : am_MJ) (Q : am_MI → am_MJ → Prop) (X : String → am_MI → am_MJ → Prop) : Prop :=
  vp_in a0 16 ∧ (vp_in a0 16 ∧ ((¬ (I 19 a0.toNatClampNeg) = 0 → (w_D_isFree (I 18 a0.toNatClampNeg) I J (fun (r6 : Int32) (I4 : am_MI) (J5 : am_MJ) => (r6 = 0 → (Q I4 J5)) ∧ (¬ (r6 = 0) → (vp_in a0 16 ∧ (w_B_writePage (I 18 a0.toNatClampNeg) (J5 20 a0.toNatClampNeg) I4 J5 (fun (I9 : am_MI) (J10 : am_MJ) => Q I9 J10) X)))) (fun _ _ _ => False))) ∧ ((I 19 a0.toNatClampNeg) = 0 → (w_B_readPage (I 18 a0.toNatClampNeg) I J (fun (r14 : Int64) (I12 : am_MI) (J13 : am_MJ) => vp_in a0 16 ∧ (Q I12 (am_uj J13 22 a0.toNatClampNeg r14))) X))))
set_option maxRecDepth 20000 in
theorem t_B_transferAsked {l : Launch} {D : va_G} {aC : Nat → ClassId} {ad : Nat → Nat} (hlt : l.stackTraces = false) {a0 : Int32} {I : am_MI} {J : am_MJ} {Q} {X} (h : w_B_transferAsked a0 I J Q X) : am_c l D aC yB_transferAsked (.code yB_transferAsked cB_transferAsked 3 none) (am_rm 10) 0 0 [.ref (ad 0), .int a0] (am_w ad aC I J) (am_lv ad aC Q) (am_lx ad aC X) := by
  unfold w_B_transferAsked at h
  refine am_of (ini := false) hlt (by decide +kernel) (Nat.le_of_ble_eq_true rfl) (fun h => nomatch h) ?_
  show am l D aC "BubbleBox" cB_transferAsked 3 none false [] am_G0 (am_rm 10) 0 0 0 0 0 [(0, .ref (ad 0)), (1, .int a0)] [] (am_w ad aC I J) (am_lv ad aC Q) (am_lx ad aC X)
  refine am_aload_n 0 dB_transferAsked_0 rfl rfl ?_
  refine go_B_requests dB_transferAsked_1 (am_tw kw_156 rfl) ?_
  refine gn_R_page dB_transferAsked_4 (am_tn kw_115 rfl) ?_
  refine am_iload_n 1 dB_transferAsked_7 rfl rfl ?_
  obtain ⟨hi1, h⟩ := h
  refine ld_18 hi1 dB_transferAsked_8 ?_
  refine am_istore_n (L2 := [(2, .int (I 18 a0.toNatClampNeg)), (0, .ref (ad 0)), (1, .int a0)]) dB_transferAsked_9 rfl (Nat.le_of_ble_eq_true rfl) rfl ?_
  refine am_aload_n 1 dB_transferAsked_10 rfl rfl ?_
  refine go_B_requests dB_transferAsked_11 (am_tw kw_156 rfl) ?_
  refine gn_R_write dB_transferAsked_14 (am_tn kw_117 rfl) ?_
  refine am_iload_n 2 dB_transferAsked_17 rfl rfl ?_
  obtain ⟨hi2, h⟩ := h
  refine ld_19 hi2 dB_transferAsked_18 ?_
  refine am_if_ne 39 dB_transferAsked_19 (by decide) (fun hc3 => ?_) (fun hc3 => ?_)
  · replace h := h.1 hc3
    refine am_aload_n 1 dB_transferAsked_39 rfl rfl ?_
    refine go_B_directory dB_transferAsked_40 (am_tw kw_155 rfl) ?_
    refine am_iload_n 0 dB_transferAsked_43 rfl rfl ?_
    refine kVN_D_isFree dB_transferAsked_44 (am_tn kw_636 rfl) (Nat.le_of_ble_eq_true rfl) ⟨Nat.le_of_ble_eq_true rfl, Nat.le_of_ble_eq_true rfl⟩ ⟨Nat.le_of_ble_eq_true rfl, Nat.le_of_ble_eq_true rfl⟩ ⟨Nat.le_of_ble_eq_true rfl, Nat.le_of_ble_eq_true rfl⟩ hlt h (fun r6 I4 J5 h => ?_)
    refine am_if_eq 64 dB_transferAsked_47 (by decide) (fun hc7 => ?_) (fun hc7 => ?_)
    · replace h := h.1 hc7
      exact am_vret dB_transferAsked_64 rfl (Nat.le_of_ble_eq_true rfl) (Nat.le_of_ble_eq_true rfl) ⟨_, _, rfl, rfl, h⟩
    · replace h := h.2 hc7
      refine am_aload_n 1 dB_transferAsked_50 rfl rfl ?_
      refine am_iload_n 0 dB_transferAsked_51 rfl rfl ?_
      refine am_aload_n 1 dB_transferAsked_52 rfl rfl ?_
      refine go_B_requests dB_transferAsked_53 (am_tw kw_156 rfl) ?_
      refine gn_R_bits dB_transferAsked_56 (am_tn kw_119 rfl) ?_
      refine am_iload_n 2 dB_transferAsked_59 rfl rfl ?_
      obtain ⟨hi8, h⟩ := h
      refine ld_20 hi8 dB_transferAsked_60 ?_
      refine kV_B_writePage dB_transferAsked_61 (am_tw kw_393 rfl) (Nat.le_of_ble_eq_true rfl) ⟨Nat.le_of_ble_eq_true rfl, Nat.le_of_ble_eq_true rfl⟩ ⟨Nat.le_of_ble_eq_true rfl, Nat.le_of_ble_eq_true rfl⟩ ⟨Nat.le_of_ble_eq_true rfl, Nat.le_of_ble_eq_true rfl⟩ hlt h (fun I9 J10 h => ?_)
      exact am_vret dB_transferAsked_64 rfl (Nat.le_of_ble_eq_true rfl) (Nat.le_of_ble_eq_true rfl) ⟨_, _, rfl, rfl, h⟩
  · replace h := h.2 hc3
    refine am_aload_n 1 dB_transferAsked_22 rfl rfl ?_
    refine go_B_requests dB_transferAsked_23 (am_tw kw_156 rfl) ?_
    refine gn_R_answers dB_transferAsked_26 (am_tn kw_122 rfl) ?_
    refine am_iload_n 2 dB_transferAsked_29 rfl rfl ?_
    refine am_aload_n 1 dB_transferAsked_30 rfl rfl ?_
    refine am_iload_n 0 dB_transferAsked_31 rfl rfl ?_
    refine kV_B_readPage dB_transferAsked_32 (am_tw kw_219 rfl) (Nat.le_of_ble_eq_true rfl) ⟨Nat.le_of_ble_eq_true rfl, Nat.le_of_ble_eq_true rfl⟩ ⟨Nat.le_of_ble_eq_true rfl, Nat.le_of_ble_eq_true rfl⟩ ⟨Nat.le_of_ble_eq_true rfl, Nat.le_of_ble_eq_true rfl⟩ hlt h (fun r14 I12 J13 h => ?_)
    obtain ⟨hi15, h⟩ := h
    refine st_22 hi15 dB_transferAsked_35 ?_
    refine am_goto 64 dB_transferAsked_36 (by decide) ?_
    exact am_vret dB_transferAsked_64 rfl (Nat.le_of_ble_eq_true rfl) (Nat.le_of_ble_eq_true rfl) ⟨_, _, rfl, rfl, h⟩
section
variable {l : Launch} {D : va_G} {aC : Nat → ClassId} {ad : Nat → Nat} {own : String} {cc : ByteArray} {nL : Nat} {ret : Option FieldType} {ini : Bool} {tb : List (Nat × Nat × Nat × Nat)} {G : State → (Nat → Prop) → Prop} {rm : Room} {mc ms k n pc idx : Nat} {L : List (Nat × Value)} {st rest : List Value} {I : am_MI} {J : am_MJ} {Q : Option Value → va_W → Prop} {X : String → va_W → Prop}
theorem kV_B_transferAsked {a0 : Int32} {K : am_MI → am_MJ → Prop} {X1 : String → am_MI → am_MJ → Prop} (hd : decode cc pc = .ok (.invokevirtual idx, 3)) (hlink : Cond.methodLink own idx yB_transferAsked ∈ am_TW) (hcat : (rest.map fun v => v.category).sum ≤ 8) (hR : 10 + 1 ≤ rm.frames ∧ 8 + (3 + 11) + 38 * 10 ≤ rm.locals) (hk : k + 1 ≤ rm.cells ∧ n + 6 ≤ rm.slots) (hm : k ≤ mc ∧ n ≤ ms) (hlt : l.stackTraces = false) (h : w_B_transferAsked a0 I J K X1) (kk : ∀ (I1 : am_MI) (J1 : am_MJ), K I1 J1 → am l D aC own cc nL ret ini [] G rm mc ms k n (pc + 3) L rest (am_w ad aC I1 J1) Q (am_lx ad aC X1)) : am l D aC own cc nL ret ini [] G rm mc ms k n pc L (.int a0 :: .ref (ad 0) :: rest) (am_w ad aC I J) Q (am_lx ad aC X1) := by
  refine am_callV 0 0 (As := [.int a0]) (N9 := 1) (t_B_transferAsked hlt h) hd rfl (am_w_at ad aC I J (by omega)) rfl hlink (am_tw kw_635 rfl) (am_tw kw_634 rfl) ks_49 (am_tw kw_1 rfl) (by decide +kernel) rfl hcat ⟨rfl, rfl⟩ hR hk (fun E ws1 hx => am_out (fun x hx => nomatch hx) (Nat.add_le_add_right hm.1 1) (Nat.add_le_add_right hm.2 6) hx) ?_
  intro v ws1 hq
  obtain ⟨I1, J1, rfl, rfl, hq⟩ := hq
  exact kk I1 J1 hq
end

def w_B_truncate (a0 : Int32) (a1 : Int32) (I : am_MI) (J : am_MJ) (Q : Int32 → am_MI → am_MJ → Prop) (X : String → am_MI → am_MJ → Prop) : Prop :=
  w_B_entryOf a0 I J (fun (r3 : Nat) (I1 : am_MI) (J2 : am_MJ) => (a1 < 0 → (X "java/lang/IllegalArgumentException" I1 J2)) ∧ (¬ (a1 < 0) → ((a1 ≤ (I1 (6 + r3) 2) → (w_D_shorten r3 a1 I1 J2 (fun (r9 : Int32) (I7 : am_MI) (J8 : am_MJ) => Q r9 I7 J8) (fun _ _ _ => False))) ∧ (¬ (a1 ≤ (I1 (6 + r3) 2)) → (X "java/lang/IllegalArgumentException" I1 J2))))) X
set_option maxRecDepth 20000 in
theorem t_B_truncate {l : Launch} {D : va_G} {aC : Nat → ClassId} {ad : Nat → Nat} (hlt : l.stackTraces = false) {a0 : Int32} {a1 : Int32} {I : am_MI} {J : am_MJ} {Q} {X} (h : w_B_truncate a0 a1 I J Q X) : am_c l D aC yB_truncate (.code yB_truncate cB_truncate 4 (some .int)) (am_rm 10) 0 0 [.ref (ad 0), .int a0, .int a1] (am_w ad aC I J) (am_li ad aC Q) (am_lx ad aC X) := by
  unfold w_B_truncate at h
  refine am_of (ini := false) hlt (by decide +kernel) (Nat.le_of_ble_eq_true rfl) (fun h => nomatch h) ?_
  show am l D aC "BubbleBox" cB_truncate 4 (some .int) false [] am_G0 (am_rm 10) 0 0 0 0 0 [(0, .ref (ad 0)), (1, .int a0), (2, .int a1)] [] (am_w ad aC I J) (am_li ad aC Q) (am_lx ad aC X)
  refine am_aload_n 0 dB_truncate_0 rfl rfl ?_
  refine am_iload_n 1 dB_truncate_1 rfl rfl ?_
  refine kV_B_entryOf dB_truncate_2 (am_tw kw_463 rfl) (Nat.le_of_ble_eq_true rfl) ⟨Nat.le_of_ble_eq_true rfl, Nat.le_of_ble_eq_true rfl⟩ ⟨Nat.le_of_ble_eq_true rfl, Nat.le_of_ble_eq_true rfl⟩ ⟨Nat.le_of_ble_eq_true rfl, Nat.le_of_ble_eq_true rfl⟩ hlt h (fun r3 I1 J2 he4 h => ?_)
  refine am_astore_n (L2 := [(3, .ref (ad (6 + r3))), (0, .ref (ad 0)), (1, .int a0), (2, .int a1)]) dB_truncate_5 rfl (Nat.le_of_ble_eq_true rfl) rfl ?_
  refine am_iload_n 3 dB_truncate_6 rfl rfl ?_
  refine am_if_lt 18 dB_truncate_7 (by decide) (fun hc5 => ?_) (fun hc5 => ?_)
  · replace h := h.1 hc5
    exact th_iae_164 dB_truncate_18 dB_truncate_21 dB_truncate_22 dB_truncate_24 dB_truncate_27 (Nat.le_of_ble_eq_true rfl) ⟨_, _, rfl, h⟩
  · replace h := h.2 hc5
    refine am_iload_n 3 dB_truncate_10 rfl rfl ?_
    refine am_aload_n 0 dB_truncate_11 rfl rfl ?_
    refine gn_E_bytes he4 dB_truncate_12 (am_tn kw_71 rfl) ?_
    refine am_icmp_le 28 dB_truncate_15 (by decide) (fun hc6 => ?_) (fun hc6 => ?_)
    · replace h := h.1 hc6
      refine am_aload_n 1 dB_truncate_28 rfl rfl ?_
      refine go_B_directory dB_truncate_29 (am_tw kw_155 rfl) ?_
      refine am_aload_n 0 dB_truncate_32 rfl rfl ?_
      refine am_iload_n 3 dB_truncate_33 rfl rfl ?_
      refine kVN_D_shorten he4 dB_truncate_34 (am_tn kw_561 rfl) (Nat.le_of_ble_eq_true rfl) ⟨Nat.le_of_ble_eq_true rfl, Nat.le_of_ble_eq_true rfl⟩ ⟨Nat.le_of_ble_eq_true rfl, Nat.le_of_ble_eq_true rfl⟩ ⟨Nat.le_of_ble_eq_true rfl, Nat.le_of_ble_eq_true rfl⟩ hlt h (fun r9 I7 J8 h => ?_)
      exact am_iret dB_truncate_37 rfl (Nat.le_of_ble_eq_true rfl) (Nat.le_of_ble_eq_true rfl) ⟨_, _, _, rfl, rfl, h⟩
    · replace h := h.2 hc6
      exact th_iae_164 dB_truncate_18 dB_truncate_21 dB_truncate_22 dB_truncate_24 dB_truncate_27 (Nat.le_of_ble_eq_true rfl) ⟨_, _, rfl, h⟩
section
variable {l : Launch} {D : va_G} {aC : Nat → ClassId} {ad : Nat → Nat} {own : String} {cc : ByteArray} {nL : Nat} {ret : Option FieldType} {ini : Bool} {tb : List (Nat × Nat × Nat × Nat)} {G : State → (Nat → Prop) → Prop} {rm : Room} {mc ms k n pc idx : Nat} {L : List (Nat × Value)} {st rest : List Value} {I : am_MI} {J : am_MJ} {Q : Option Value → va_W → Prop} {X : String → va_W → Prop}
theorem kX_B_truncate {a0 : Int32} {a1 : Int32} {K : Int32 → am_MI → am_MJ → Prop} {X1 : String → am_MI → am_MJ → Prop} (hd : decode cc pc = .ok (.invokevirtual idx, 3)) (hlink : Cond.methodLink own idx yB_truncate ∈ am_TW) (hcat : (rest.map fun v => v.category).sum ≤ 8) (hR : 10 + 1 ≤ rm.frames ∧ 8 + (4 + 11) + 38 * 10 ≤ rm.locals) (hk : k + 1 ≤ rm.cells ∧ n + 6 ≤ rm.slots) (hlt : l.stackTraces = false) (h : w_B_truncate a0 a1 I J K X1) (kx : ∀ (E : String) (I1 : am_MI) (J1 : am_MJ), X1 E I1 J1 → am_t l D aC own cc nL ret ini tb G rm mc ms (k + 1) (n + 6) pc L E (am_w ad aC I1 J1) Q X) (kk : ∀ (r : Int32) (I1 : am_MI) (J1 : am_MJ), K r I1 J1 → am l D aC own cc nL ret ini tb G rm mc ms k n (pc + 3) L (.int r :: rest) (am_w ad aC I1 J1) Q X) : am l D aC own cc nL ret ini tb G rm mc ms k n pc L (.int a1 :: .int a0 :: .ref (ad 0) :: rest) (am_w ad aC I J) Q X := by
  refine am_callV 0 0 (As := [.int a0, .int a1]) (N9 := 2) (t_B_truncate hlt h) hd rfl (am_w_at ad aC I J (by omega)) rfl hlink (am_tw kw_559 rfl) (am_tw kw_557 rfl) (am_tw kw_558 rfl) (am_tw kw_1 rfl) (by decide +kernel) rfl hcat ⟨rfl, rfl⟩ hR hk (fun E ws1 hx => ?_) ?_
  · obtain ⟨I1, J1, rfl, hx⟩ := hx
    exact kx E I1 J1 hx
  · intro v ws1 hq
    obtain ⟨r, I1, J1, rfl, rfl, hq⟩ := hq
    exact kk r I1 J1 hq
end
def w_B_writeOtherImage_43 (x1 : Int32) (x2 : Int32) (z3 : Nat) (x4 : Int32) (x5 : Int32) (I : am_MI) (J : am_MJ) (Q : am_MI → am_MJ → Prop) (X : String → am_MI → am_MJ → Prop) : Prop :=
  ∀ P43 : Int32 → am_MI → am_MJ → Prop, (∀ (x5 : Int32) (I : am_MI) (J : am_MJ), (((20 : Int32) ≤ x5 → (vp_in (0 : Int32) 20 ∧ (w_B_writePage x4 (J (25 + 2 * z3) (0 : Int32).toNatClampNeg) I J (fun (I7 : am_MI) (J8 : am_MJ) => Q (am_ui (am_ui I7 0 6 x1) 0 7 x2) J8) X))) ∧ (¬ ((20 : Int32) ≤ x5) → (vp_in x5 20 ∧ (w_B_writePage (x4 + x5) (J (25 + 2 * z3) x5.toNatClampNeg) I J (fun (I11 : am_MI) (J12 : am_MJ) => P43 (x5 + 1) I11 J12) X)))) → P43 x5 I J) → P43 x5 I J
set_option maxRecDepth 20000 in
theorem t_B_writeOtherImage_43 {l : Launch} {D : va_G} {aC : Nat → ClassId} {ad : Nat → Nat} (hlt : l.stackTraces = false) {x1 : Int32} {x2 : Int32} {z3 : Nat} {x4 : Int32} {x5 : Int32} (hz3 : z3 < 2) {I : am_MI} {J : am_MJ} {Q} {X} (h : w_B_writeOtherImage_43 x1 x2 z3 x4 x5 I J Q X) : am l D aC "BubbleBox" cB_writeOtherImage 6 none false [] am_G0 (am_rm 10) 0 0 0 0 43 [(0, .ref (ad 0)), (1, .int x1), (2, .int x2), (3, .ref (ad (24 + 2 * z3))), (4, .int x4), (5, .int x5)] [] (am_w ad aC I J) (am_lv ad aC Q) (am_lx ad aC X) := by
  unfold w_B_writeOtherImage_43 at h
  refine h (fun (x5 : Int32) (I : am_MI) (J : am_MJ) => am l D aC "BubbleBox" cB_writeOtherImage 6 none false [] am_G0 (am_rm 10) 0 0 0 0 43 [(0, .ref (ad 0)), (1, .int x1), (2, .int x2), (3, .ref (ad (24 + 2 * z3))), (4, .int x4), (5, .int x5)] [] (am_w ad aC I J) (am_lv ad aC Q) (am_lx ad aC X)) (fun x5 I J h => ?_)
  refine am_iload 5 dB_writeOtherImage_43 rfl ?_
  refine am_bipush (v := 20) dB_writeOtherImage_45 (by decide) ?_
  refine am_icmp_ge 72 dB_writeOtherImage_47 (by decide) (fun hc5 => ?_) (fun hc5 => ?_)
  · replace h := h.1 hc5
    refine am_aload_n 0 dB_writeOtherImage_72 rfl rfl ?_
    refine am_iload 4 dB_writeOtherImage_73 rfl ?_
    refine am_aload_n 3 dB_writeOtherImage_75 rfl rfl ?_
    refine gn_I_pages hz3 dB_writeOtherImage_76 (am_tn kw_150 rfl) ?_
    refine am_iconst (v := 0) dB_writeOtherImage_79 (by decide) ?_
    obtain ⟨hi6, h⟩ := h
    refine ld_im hz3 hi6 dB_writeOtherImage_80 ?_
    refine kV_B_writePage dB_writeOtherImage_81 (am_tw kw_393 rfl) (Nat.le_of_ble_eq_true rfl) ⟨Nat.le_of_ble_eq_true rfl, Nat.le_of_ble_eq_true rfl⟩ ⟨Nat.le_of_ble_eq_true rfl, Nat.le_of_ble_eq_true rfl⟩ ⟨Nat.le_of_ble_eq_true rfl, Nat.le_of_ble_eq_true rfl⟩ hlt h (fun I7 J8 h => ?_)
    refine am_aload_n 0 dB_writeOtherImage_84 rfl rfl ?_
    refine am_iload_n 1 dB_writeOtherImage_85 rfl rfl ?_
    refine po_B_currentImage dB_writeOtherImage_86 (am_tw kw_160 rfl) ?_
    refine am_aload_n 0 dB_writeOtherImage_89 rfl rfl ?_
    refine am_iload_n 2 dB_writeOtherImage_90 rfl rfl ?_
    refine po_B_turn dB_writeOtherImage_91 (am_tw kw_161 rfl) ?_
    exact am_vret dB_writeOtherImage_94 rfl (Nat.le_of_ble_eq_true rfl) (Nat.le_of_ble_eq_true rfl) ⟨_, _, rfl, rfl, h⟩
  · replace h := h.2 hc5
    refine am_aload_n 0 dB_writeOtherImage_50 rfl rfl ?_
    refine am_iload 4 dB_writeOtherImage_51 rfl ?_
    refine am_iload 5 dB_writeOtherImage_53 rfl ?_
    refine am_iadd dB_writeOtherImage_55 ?_
    refine am_aload_n 3 dB_writeOtherImage_56 rfl rfl ?_
    refine gn_I_pages hz3 dB_writeOtherImage_57 (am_tn kw_150 rfl) ?_
    refine am_iload 5 dB_writeOtherImage_60 rfl ?_
    obtain ⟨hi10, h⟩ := h
    refine ld_im hz3 hi10 dB_writeOtherImage_62 ?_
    refine kV_B_writePage dB_writeOtherImage_63 (am_tw kw_393 rfl) (Nat.le_of_ble_eq_true rfl) ⟨Nat.le_of_ble_eq_true rfl, Nat.le_of_ble_eq_true rfl⟩ ⟨Nat.le_of_ble_eq_true rfl, Nat.le_of_ble_eq_true rfl⟩ ⟨Nat.le_of_ble_eq_true rfl, Nat.le_of_ble_eq_true rfl⟩ hlt h (fun I11 J12 h => ?_)
    refine am_iinc (j := 5) (v := x5 + 1) (L2 := [(5, .int (x5 + 1)), (0, .ref (ad 0)), (1, .int x1), (2, .int x2), (3, .ref (ad (24 + 2 * z3))), (4, .int x4)]) dB_writeOtherImage_66 rfl (congrArg (x5 + ·) (by decide : Int32.ofInt (1) = 1)) (Nat.le_of_ble_eq_true rfl) rfl ?_
    refine am_goto 43 dB_writeOtherImage_69 (by decide) ?_
    exact am_sub [1, 2, 3, 4, 5, 0] rfl h

def w_B_writeOtherImage (I : am_MI) (J : am_MJ) (Q : am_MI → am_MJ → Prop) (X : String → am_MI → am_MJ → Prop) : Prop :=
  vp_in ((1 : Int32) - (I 0 6)) 2 ∧ (w_D_putInto (((1 : Int32) - (I 0 6)).toNatClampNeg) (((I 0 7) + (1 : Int32)) &&& (255 : Int32)) I J (fun (I2 : am_MI) (J3 : am_MJ) => w_B_writeOtherImage_43 ((1 : Int32) - (I 0 6)) (((I 0 7) + (1 : Int32)) &&& (255 : Int32)) (((1 : Int32) - (I 0 6)).toNatClampNeg) (((1 : Int32) - (I 0 6)) * (20 : Int32)) (1 : Int32) I2 J3 Q X) (fun _ _ _ => False))
set_option maxRecDepth 20000 in
theorem t_B_writeOtherImage {l : Launch} {D : va_G} {aC : Nat → ClassId} {ad : Nat → Nat} (hlt : l.stackTraces = false) {I : am_MI} {J : am_MJ} {Q} {X} (h : w_B_writeOtherImage I J Q X) : am_c l D aC yB_writeOtherImage (.code yB_writeOtherImage cB_writeOtherImage 6 none) (am_rm 10) 0 0 [.ref (ad 0)] (am_w ad aC I J) (am_lv ad aC Q) (am_lx ad aC X) := by
  unfold w_B_writeOtherImage at h
  refine am_of (ini := false) hlt (by decide +kernel) (Nat.le_of_ble_eq_true rfl) (fun h => nomatch h) ?_
  show am l D aC "BubbleBox" cB_writeOtherImage 6 none false [] am_G0 (am_rm 10) 0 0 0 0 0 [(0, .ref (ad 0))] [] (am_w ad aC I J) (am_lv ad aC Q) (am_lx ad aC X)
  refine am_iconst (v := 1) dB_writeOtherImage_0 (by decide) ?_
  refine am_aload_n 0 dB_writeOtherImage_1 rfl rfl ?_
  refine go_B_currentImage dB_writeOtherImage_2 (am_tw kw_160 rfl) ?_
  refine am_isub dB_writeOtherImage_5 ?_
  refine am_istore_n (L2 := [(1, .int ((1 : Int32) - (I 0 6))), (0, .ref (ad 0))]) dB_writeOtherImage_6 rfl (Nat.le_of_ble_eq_true rfl) rfl ?_
  refine am_aload_n 1 dB_writeOtherImage_7 rfl rfl ?_
  refine go_B_turn dB_writeOtherImage_8 (am_tw kw_161 rfl) ?_
  refine am_iconst (v := 1) dB_writeOtherImage_11 (by decide) ?_
  refine am_iadd dB_writeOtherImage_12 ?_
  refine am_sipush (v := 255) dB_writeOtherImage_13 (by decide) ?_
  refine am_iand dB_writeOtherImage_16 ?_
  refine am_istore_n (L2 := [(2, .int (((I 0 7) + (1 : Int32)) &&& (255 : Int32))), (1, .int ((1 : Int32) - (I 0 6))), (0, .ref (ad 0))]) dB_writeOtherImage_17 rfl (Nat.le_of_ble_eq_true rfl) rfl ?_
  refine am_aload_n 2 dB_writeOtherImage_18 rfl rfl ?_
  refine go_B_images dB_writeOtherImage_19 (am_tw kw_157 rfl) ?_
  refine am_iload_n 1 dB_writeOtherImage_22 rfl rfl ?_
  obtain ⟨hi1, h⟩ := h
  refine al_23 hi1 dB_writeOtherImage_23 ?_
  refine am_astore_n (L2 := [(3, .ref (ad (24 + 2 * (((1 : Int32) - (I 0 6)).toNatClampNeg)))), (2, .int (((I 0 7) + (1 : Int32)) &&& (255 : Int32))), (1, .int ((1 : Int32) - (I 0 6))), (0, .ref (ad 0))]) dB_writeOtherImage_24 rfl (Nat.le_of_ble_eq_true rfl) rfl ?_
  refine am_aload_n 3 dB_writeOtherImage_25 rfl rfl ?_
  refine go_B_directory dB_writeOtherImage_26 (am_tw kw_155 rfl) ?_
  refine am_aload_n 0 dB_writeOtherImage_29 rfl rfl ?_
  refine am_iload_n 1 dB_writeOtherImage_30 rfl rfl ?_
  refine kVN_D_putInto (am_lt hi1) dB_writeOtherImage_31 (am_tn kw_401 rfl) (Nat.le_of_ble_eq_true rfl) ⟨Nat.le_of_ble_eq_true rfl, Nat.le_of_ble_eq_true rfl⟩ ⟨Nat.le_of_ble_eq_true rfl, Nat.le_of_ble_eq_true rfl⟩ ⟨Nat.le_of_ble_eq_true rfl, Nat.le_of_ble_eq_true rfl⟩ hlt h (fun I2 J3 h => ?_)
  refine am_iload_n 2 dB_writeOtherImage_34 rfl rfl ?_
  refine am_bipush (v := 20) dB_writeOtherImage_35 (by decide) ?_
  refine am_imul dB_writeOtherImage_37 ?_
  refine am_istore (L2 := [(4, .int (((1 : Int32) - (I 0 6)) * (20 : Int32))), (3, .ref (ad (24 + 2 * (((1 : Int32) - (I 0 6)).toNatClampNeg)))), (2, .int (((I 0 7) + (1 : Int32)) &&& (255 : Int32))), (1, .int ((1 : Int32) - (I 0 6))), (0, .ref (ad 0))]) dB_writeOtherImage_38 (Nat.le_of_ble_eq_true rfl) rfl ?_
  refine am_iconst (v := 1) dB_writeOtherImage_40 (by decide) ?_
  refine am_istore (L2 := [(5, .int 1), (4, .int (((1 : Int32) - (I 0 6)) * (20 : Int32))), (3, .ref (ad (24 + 2 * (((1 : Int32) - (I 0 6)).toNatClampNeg)))), (2, .int (((I 0 7) + (1 : Int32)) &&& (255 : Int32))), (1, .int ((1 : Int32) - (I 0 6))), (0, .ref (ad 0))]) dB_writeOtherImage_41 (Nat.le_of_ble_eq_true rfl) rfl ?_
  exact am_sub [5, 4, 3, 2, 1, 0] rfl (t_B_writeOtherImage_43 hlt (am_lt hi1) h)
section
variable {l : Launch} {D : va_G} {aC : Nat → ClassId} {ad : Nat → Nat} {own : String} {cc : ByteArray} {nL : Nat} {ret : Option FieldType} {ini : Bool} {tb : List (Nat × Nat × Nat × Nat)} {G : State → (Nat → Prop) → Prop} {rm : Room} {mc ms k n pc idx : Nat} {L : List (Nat × Value)} {st rest : List Value} {I : am_MI} {J : am_MJ} {Q : Option Value → va_W → Prop} {X : String → va_W → Prop}
theorem kV_B_writeOtherImage {K : am_MI → am_MJ → Prop} {X1 : String → am_MI → am_MJ → Prop} (hd : decode cc pc = .ok (.invokevirtual idx, 3)) (hlink : Cond.methodLink own idx yB_writeOtherImage ∈ am_TW) (hcat : (rest.map fun v => v.category).sum ≤ 8) (hR : 10 + 1 ≤ rm.frames ∧ 8 + (6 + 11) + 38 * 10 ≤ rm.locals) (hk : k + 1 ≤ rm.cells ∧ n + 6 ≤ rm.slots) (hm : k ≤ mc ∧ n ≤ ms) (hlt : l.stackTraces = false) (h : w_B_writeOtherImage I J K X1) (kk : ∀ (I1 : am_MI) (J1 : am_MJ), K I1 J1 → am l D aC own cc nL ret ini [] G rm mc ms k n (pc + 3) L rest (am_w ad aC I1 J1) Q (am_lx ad aC X1)) : am l D aC own cc nL ret ini [] G rm mc ms k n pc L (.ref (ad 0) :: rest) (am_w ad aC I J) Q (am_lx ad aC X1) := by
  refine am_callV 0 0 (As := []) (N9 := 0) (t_B_writeOtherImage hlt h) hd rfl (am_w_at ad aC I J (by omega)) rfl hlink (am_tw kw_400 rfl) (am_tw kw_399 rfl) ks_24 (am_tw kw_1 rfl) (by decide +kernel) rfl hcat ⟨rfl, rfl⟩ hR hk (fun E ws1 hx => am_out (fun x hx => nomatch hx) (Nat.add_le_add_right hm.1 1) (Nat.add_le_add_right hm.2 6) hx) ?_
  intro v ws1 hq
  obtain ⟨I1, J1, rfl, rfl, hq⟩ := hq
  exact kk I1 J1 hq
end

def w_B_load (e1 : Nat) (a1 : Int32) (I : am_MI) (J : am_MJ) (Q : am_MI → am_MJ → Prop) (X : String → am_MI → am_MJ → Prop) : Prop :=
  (¬ (I (6 + e1) 3) = a1 → (w_B_save e1 I J (fun (I2 : am_MI) (J3 : am_MJ) => w_B_readPage a1 I2 J3 (fun (r7 : Int64) (I5 : am_MI) (J6 : am_MJ) => w_E_openWindow e1 a1 r7 I5 J6 (fun (I8 : am_MI) (J9 : am_MJ) => Q I8 J9) (fun _ _ _ => False)) X) X)) ∧ ((I (6 + e1) 3) = a1 → (Q I J))
set_option maxRecDepth 20000 in
theorem t_B_load {l : Launch} {D : va_G} {aC : Nat → ClassId} {ad : Nat → Nat} (hlt : l.stackTraces = false) {e1 : Nat} {a1 : Int32} (he1 : e1 < 8) {I : am_MI} {J : am_MJ} {Q} {X} (h : w_B_load e1 a1 I J Q X) : am_c l D aC yB_load (.code yB_load cB_load 5 none) (am_rm 11) 0 0 [.ref (ad 0), .ref (ad (6 + e1)), .int a1] (am_w ad aC I J) (am_lv ad aC Q) (am_lx ad aC X) := by
  unfold w_B_load at h
  refine am_of (ini := false) hlt (by decide +kernel) (Nat.le_of_ble_eq_true rfl) (fun h => nomatch h) ?_
  show am l D aC "BubbleBox" cB_load 5 none false [] am_G0 (am_rm 11) 0 0 0 0 0 [(0, .ref (ad 0)), (1, .ref (ad (6 + e1))), (2, .int a1)] [] (am_w ad aC I J) (am_lv ad aC Q) (am_lx ad aC X)
  refine am_aload_n 1 dB_load_0 rfl rfl ?_
  refine gn_E_windowPage he1 dB_load_1 (am_tn kw_74 rfl) ?_
  refine am_iload_n 2 dB_load_4 rfl rfl ?_
  refine am_icmp_ne 9 dB_load_5 (by decide) (fun hc1 => ?_) (fun hc1 => ?_)
  · replace h := h.1 hc1
    refine am_aload_n 0 dB_load_9 rfl rfl ?_
    refine am_aload_n 1 dB_load_10 rfl rfl ?_
    refine kV_B_save he1 dB_load_11 (am_tw kw_389 rfl) (Nat.le_of_ble_eq_true rfl) ⟨Nat.le_of_ble_eq_true rfl, Nat.le_of_ble_eq_true rfl⟩ ⟨Nat.le_of_ble_eq_true rfl, Nat.le_of_ble_eq_true rfl⟩ ⟨Nat.le_of_ble_eq_true rfl, Nat.le_of_ble_eq_true rfl⟩ hlt h (fun I2 J3 h => ?_)
    refine am_aload_n 0 dB_load_14 rfl rfl ?_
    refine am_iload_n 2 dB_load_15 rfl rfl ?_
    refine kV_B_readPage dB_load_16 (am_tw kw_219 rfl) (Nat.le_of_ble_eq_true rfl) ⟨Nat.le_of_ble_eq_true rfl, Nat.le_of_ble_eq_true rfl⟩ ⟨Nat.le_of_ble_eq_true rfl, Nat.le_of_ble_eq_true rfl⟩ ⟨Nat.le_of_ble_eq_true rfl, Nat.le_of_ble_eq_true rfl⟩ hlt h (fun r7 I5 J6 h => ?_)
    refine am_lstore_n (L2 := [(3, .long r7), (0, .ref (ad 0)), (1, .ref (ad (6 + e1))), (2, .int a1)]) dB_load_19 rfl (Nat.le_of_ble_eq_true rfl) rfl ?_
    refine am_aload_n 2 dB_load_20 rfl rfl ?_
    refine am_iload_n 3 dB_load_21 rfl rfl ?_
    refine am_lload_n 0 dB_load_22 rfl rfl ?_
    refine kVN_E_openWindow he1 dB_load_23 (am_tn kw_504 rfl) (Nat.le_of_ble_eq_true rfl) ⟨Nat.le_of_ble_eq_true rfl, Nat.le_of_ble_eq_true rfl⟩ ⟨Nat.le_of_ble_eq_true rfl, Nat.le_of_ble_eq_true rfl⟩ ⟨Nat.le_of_ble_eq_true rfl, Nat.le_of_ble_eq_true rfl⟩ hlt h (fun I8 J9 h => ?_)
    exact am_vret dB_load_26 rfl (Nat.le_of_ble_eq_true rfl) (Nat.le_of_ble_eq_true rfl) ⟨_, _, rfl, rfl, h⟩
  · replace h := h.2 hc1
    exact am_vret dB_load_8 rfl (Nat.le_of_ble_eq_true rfl) (Nat.le_of_ble_eq_true rfl) ⟨_, _, rfl, rfl, h⟩
section
variable {l : Launch} {D : va_G} {aC : Nat → ClassId} {ad : Nat → Nat} {own : String} {cc : ByteArray} {nL : Nat} {ret : Option FieldType} {ini : Bool} {tb : List (Nat × Nat × Nat × Nat)} {G : State → (Nat → Prop) → Prop} {rm : Room} {mc ms k n pc idx : Nat} {L : List (Nat × Value)} {st rest : List Value} {I : am_MI} {J : am_MJ} {Q : Option Value → va_W → Prop} {X : String → va_W → Prop}
theorem kV_B_load {e1 : Nat} {a1 : Int32} {K : am_MI → am_MJ → Prop} {X1 : String → am_MI → am_MJ → Prop} (he1 : e1 < 8) (hd : decode cc pc = .ok (.invokevirtual idx, 3)) (hlink : Cond.methodLink own idx yB_load ∈ am_TW) (hcat : (rest.map fun v => v.category).sum ≤ 8) (hR : 11 + 1 ≤ rm.frames ∧ 8 + (5 + 11) + 38 * 11 ≤ rm.locals) (hk : k + 1 ≤ rm.cells ∧ n + 6 ≤ rm.slots) (hm : k ≤ mc ∧ n ≤ ms) (hlt : l.stackTraces = false) (h : w_B_load e1 a1 I J K X1) (kk : ∀ (I1 : am_MI) (J1 : am_MJ), K I1 J1 → am l D aC own cc nL ret ini [] G rm mc ms k n (pc + 3) L rest (am_w ad aC I1 J1) Q (am_lx ad aC X1)) : am l D aC own cc nL ret ini [] G rm mc ms k n pc L (.int a1 :: .ref (ad (6 + e1)) :: .ref (ad 0) :: rest) (am_w ad aC I J) Q (am_lx ad aC X1) := by
  refine am_callV 0 0 (As := [.ref (ad (6 + e1)), .int a1]) (N9 := 2) (t_B_load hlt he1 h) hd rfl (am_w_at ad aC I J (by omega)) rfl hlink (am_tw kw_514 rfl) (am_tw kw_513 rfl) ks_39 (am_tw kw_1 rfl) (by decide +kernel) rfl hcat ⟨rfl, rfl⟩ hR hk (fun E ws1 hx => am_out (fun x hx => nomatch hx) (Nat.add_le_add_right hm.1 1) (Nat.add_le_add_right hm.2 6) hx) ?_
  intro v ws1 hq
  obtain ⟨I1, J1, rfl, rfl, hq⟩ := hq
  exact kk I1 J1 hq
end

def w_B_mount (I : am_MI) (J : am_MJ) (Q : Int32 → am_MI → am_MJ → Prop) (X : String → am_MI → am_MJ → Prop) : Prop :=
  w_B_forgetAll (am_ui (am_ui I 0 4 (1 : Int32)) 0 5 ((-1) : Int32)) J (fun (I1 : am_MI) (J2 : am_MJ) => (¬ (I1 1 2) = 0 → (w_B_readImages I1 J2 (fun (I5 : am_MI) (J6 : am_MJ) => w_B_newestImage I5 J6 (fun (r10 : Int32) (I8 : am_MI) (J9 : am_MJ) => (¬ r10 = ((-1) : Int32) → (vp_in r10 2 ∧ (w_I_number r10.toNatClampNeg (0 : Int32) (1 : Int32) (am_ui I8 0 6 r10) J9 (fun (r15 : Int32) (I13 : am_MI) (J14 : am_MJ) => vp_in r10 2 ∧ (w_D_takeFrom r10.toNatClampNeg (am_ui I13 0 7 r15) J14 (fun (I17 : am_MI) (J18 : am_MJ) => Q 1 (am_ui I17 0 4 (2 : Int32)) J18) (fun _ _ _ => False))) (fun _ _ _ => False)))) ∧ (r10 = ((-1) : Int32) → (Q 0 I8 J9))) X) X)) ∧ ((I1 1 2) = 0 → (Q 0 I1 J2))) X
set_option maxRecDepth 20000 in
theorem t_B_mount {l : Launch} {D : va_G} {aC : Nat → ClassId} {ad : Nat → Nat} (hlt : l.stackTraces = false) {I : am_MI} {J : am_MJ} {Q} {X} (h : w_B_mount I J Q X) : am_c l D aC yB_mount (.code yB_mount cB_mount 2 (some .boolean)) (am_rm 11) 0 0 [.ref (ad 0)] (am_w ad aC I J) (am_li ad aC Q) (am_lx ad aC X) := by
  unfold w_B_mount at h
  refine am_of (ini := false) hlt (by decide +kernel) (Nat.le_of_ble_eq_true rfl) (fun h => nomatch h) ?_
  show am l D aC "BubbleBox" cB_mount 2 (some .boolean) false [] am_G0 (am_rm 11) 0 0 0 0 0 [(0, .ref (ad 0))] [] (am_w ad aC I J) (am_li ad aC Q) (am_lx ad aC X)
  refine am_aload_n 0 dB_mount_0 rfl rfl ?_
  refine am_iconst (v := 1) dB_mount_1 (by decide) ?_
  refine po_B_condition dB_mount_2 (am_tw kw_158 rfl) ?_
  refine am_aload_n 0 dB_mount_5 rfl rfl ?_
  refine am_iconst (v := (-1)) dB_mount_6 (by decide) ?_
  refine po_B_transfersLeft dB_mount_7 (am_tw kw_159 rfl) ?_
  refine am_aload_n 0 dB_mount_10 rfl rfl ?_
  refine kV_B_forgetAll dB_mount_11 (am_tw kw_195 rfl) (Nat.le_of_ble_eq_true rfl) ⟨Nat.le_of_ble_eq_true rfl, Nat.le_of_ble_eq_true rfl⟩ ⟨Nat.le_of_ble_eq_true rfl, Nat.le_of_ble_eq_true rfl⟩ ⟨Nat.le_of_ble_eq_true rfl, Nat.le_of_ble_eq_true rfl⟩ hlt h (fun I1 J2 h => ?_)
  refine am_aload_n 0 dB_mount_14 rfl rfl ?_
  refine go_B_chip dB_mount_15 (am_tw kw_154 rfl) ?_
  refine gn_C_mapped dB_mount_18 (am_tn kw_34 rfl) ?_
  refine am_if_ne 26 dB_mount_21 (by decide) (fun hc4 => ?_) (fun hc4 => ?_)
  · replace h := h.1 hc4
    refine am_aload_n 0 dB_mount_26 rfl rfl ?_
    refine kV_B_readImages dB_mount_27 (am_tw kw_215 rfl) (Nat.le_of_ble_eq_true rfl) ⟨Nat.le_of_ble_eq_true rfl, Nat.le_of_ble_eq_true rfl⟩ ⟨Nat.le_of_ble_eq_true rfl, Nat.le_of_ble_eq_true rfl⟩ ⟨Nat.le_of_ble_eq_true rfl, Nat.le_of_ble_eq_true rfl⟩ hlt h (fun I5 J6 h => ?_)
    refine am_aload_n 0 dB_mount_30 rfl rfl ?_
    refine kV_B_newestImage dB_mount_31 (am_tw kw_304 rfl) (Nat.le_of_ble_eq_true rfl) ⟨Nat.le_of_ble_eq_true rfl, Nat.le_of_ble_eq_true rfl⟩ ⟨Nat.le_of_ble_eq_true rfl, Nat.le_of_ble_eq_true rfl⟩ ⟨Nat.le_of_ble_eq_true rfl, Nat.le_of_ble_eq_true rfl⟩ hlt h (fun r10 I8 J9 h => ?_)
    refine am_istore_n (L2 := [(1, .int r10), (0, .ref (ad 0))]) dB_mount_34 rfl (Nat.le_of_ble_eq_true rfl) rfl ?_
    refine am_iload_n 0 dB_mount_35 rfl rfl ?_
    refine am_iconst (v := (-1)) dB_mount_36 (by decide) ?_
    refine am_icmp_ne 42 dB_mount_37 (by decide) (fun hc11 => ?_) (fun hc11 => ?_)
    · replace h := h.1 hc11
      refine am_aload_n 1 dB_mount_42 rfl rfl ?_
      refine am_iload_n 0 dB_mount_43 rfl rfl ?_
      refine po_B_currentImage dB_mount_44 (am_tw kw_160 rfl) ?_
      refine am_aload_n 1 dB_mount_47 rfl rfl ?_
      refine am_aload_n 1 dB_mount_48 rfl rfl ?_
      refine go_B_images dB_mount_49 (am_tw kw_157 rfl) ?_
      refine am_iload_n 0 dB_mount_52 rfl rfl ?_
      obtain ⟨hi12, h⟩ := h
      refine al_23 hi12 dB_mount_53 ?_
      refine am_iconst (v := 0) dB_mount_54 (by decide) ?_
      refine am_iconst (v := 1) dB_mount_55 (by decide) ?_
      refine kVN_I_number (am_lt hi12) dB_mount_56 (am_tn kw_320 rfl) (Nat.le_of_ble_eq_true rfl) ⟨Nat.le_of_ble_eq_true rfl, Nat.le_of_ble_eq_true rfl⟩ ⟨Nat.le_of_ble_eq_true rfl, Nat.le_of_ble_eq_true rfl⟩ ⟨Nat.le_of_ble_eq_true rfl, Nat.le_of_ble_eq_true rfl⟩ hlt h (fun r15 I13 J14 h => ?_)
      refine po_B_turn dB_mount_59 (am_tw kw_161 rfl) ?_
      refine am_aload_n 1 dB_mount_62 rfl rfl ?_
      refine go_B_directory dB_mount_63 (am_tw kw_155 rfl) ?_
      refine am_aload_n 1 dB_mount_66 rfl rfl ?_
      refine go_B_images dB_mount_67 (am_tw kw_157 rfl) ?_
      refine am_iload_n 0 dB_mount_70 rfl rfl ?_
      obtain ⟨hi16, h⟩ := h
      refine al_23 hi16 dB_mount_71 ?_
      refine kVN_D_takeFrom (am_lt hi16) dB_mount_72 (am_tn kw_321 rfl) (Nat.le_of_ble_eq_true rfl) ⟨Nat.le_of_ble_eq_true rfl, Nat.le_of_ble_eq_true rfl⟩ ⟨Nat.le_of_ble_eq_true rfl, Nat.le_of_ble_eq_true rfl⟩ ⟨Nat.le_of_ble_eq_true rfl, Nat.le_of_ble_eq_true rfl⟩ hlt h (fun I17 J18 h => ?_)
      refine am_aload_n 1 dB_mount_75 rfl rfl ?_
      refine am_iconst (v := 2) dB_mount_76 (by decide) ?_
      refine po_B_condition dB_mount_77 (am_tw kw_158 rfl) ?_
      refine am_iconst (v := 1) dB_mount_80 (by decide) ?_
      exact am_zret dB_mount_81 rfl (Nat.le_of_ble_eq_true rfl) (Nat.le_of_ble_eq_true rfl) (by decide) ⟨_, _, _, rfl, rfl, h⟩
    · replace h := h.2 hc11
      refine am_iconst (v := 0) dB_mount_40 (by decide) ?_
      exact am_zret dB_mount_41 rfl (Nat.le_of_ble_eq_true rfl) (Nat.le_of_ble_eq_true rfl) (by decide) ⟨_, _, _, rfl, rfl, h⟩
  · replace h := h.2 hc4
    refine am_iconst (v := 0) dB_mount_24 (by decide) ?_
    exact am_zret dB_mount_25 rfl (Nat.le_of_ble_eq_true rfl) (Nat.le_of_ble_eq_true rfl) (by decide) ⟨_, _, _, rfl, rfl, h⟩
section
variable {l : Launch} {D : va_G} {aC : Nat → ClassId} {ad : Nat → Nat} {own : String} {cc : ByteArray} {nL : Nat} {ret : Option FieldType} {ini : Bool} {tb : List (Nat × Nat × Nat × Nat)} {G : State → (Nat → Prop) → Prop} {rm : Room} {mc ms k n pc idx : Nat} {L : List (Nat × Value)} {st rest : List Value} {I : am_MI} {J : am_MJ} {Q : Option Value → va_W → Prop} {X : String → va_W → Prop}
theorem kV_B_mount {K : Int32 → am_MI → am_MJ → Prop} {X1 : String → am_MI → am_MJ → Prop} (hd : decode cc pc = .ok (.invokevirtual idx, 3)) (hlink : Cond.methodLink own idx yB_mount ∈ am_TW) (hcat : (rest.map fun v => v.category).sum ≤ 8) (hR : 11 + 1 ≤ rm.frames ∧ 8 + (2 + 11) + 38 * 11 ≤ rm.locals) (hk : k + 1 ≤ rm.cells ∧ n + 6 ≤ rm.slots) (hm : k ≤ mc ∧ n ≤ ms) (hlt : l.stackTraces = false) (h : w_B_mount I J K X1) (kk : ∀ (r : Int32) (I1 : am_MI) (J1 : am_MJ), K r I1 J1 → am l D aC own cc nL ret ini [] G rm mc ms k n (pc + 3) L (.int r :: rest) (am_w ad aC I1 J1) Q (am_lx ad aC X1)) : am l D aC own cc nL ret ini [] G rm mc ms k n pc L (.ref (ad 0) :: rest) (am_w ad aC I J) Q (am_lx ad aC X1) := by
  refine am_callV 0 0 (As := []) (N9 := 0) (t_B_mount hlt h) hd rfl (am_w_at ad aC I J (by omega)) rfl hlink (am_tw kw_194 rfl) (am_tw kw_192 rfl) (am_tw kw_193 rfl) (am_tw kw_1 rfl) (by decide +kernel) rfl hcat ⟨rfl, rfl⟩ hR hk (fun E ws1 hx => am_out (fun x hx => nomatch hx) (Nat.add_le_add_right hm.1 1) (Nat.add_le_add_right hm.2 6) hx) ?_
  intro v ws1 hq
  obtain ⟨r, I1, J1, rfl, rfl, hq⟩ := hq
  exact kk r I1 J1 hq
end

def w_B_openNewPage (e1 : Nat) (I : am_MI) (J : am_MJ) (Q : am_MI → am_MJ → Prop) (X : String → am_MI → am_MJ → Prop) : Prop :=
  w_B_neededFreePage I J (fun (r3 : Int32) (I1 : am_MI) (J2 : am_MJ) => w_B_save e1 I1 J2 (fun (I4 : am_MI) (J5 : am_MJ) => w_D_addPage e1 r3 I4 J5 (fun (I7 : am_MI) (J8 : am_MJ) => w_E_openWindow e1 r3 (0 : Int64) I7 J8 (fun (I10 : am_MI) (J11 : am_MJ) => Q I10 J11) (fun _ _ _ => False)) (fun _ _ _ => False)) X) X
set_option maxRecDepth 20000 in
theorem t_B_openNewPage {l : Launch} {D : va_G} {aC : Nat → ClassId} {ad : Nat → Nat} (hlt : l.stackTraces = false) {e1 : Nat} (he1 : e1 < 8) {I : am_MI} {J : am_MJ} {Q} {X} (h : w_B_openNewPage e1 I J Q X) : am_c l D aC yB_openNewPage (.code yB_openNewPage cB_openNewPage 3 none) (am_rm 11) 0 0 [.ref (ad 0), .ref (ad (6 + e1))] (am_w ad aC I J) (am_lv ad aC Q) (am_lx ad aC X) := by
  unfold w_B_openNewPage at h
  refine am_of (ini := false) hlt (by decide +kernel) (Nat.le_of_ble_eq_true rfl) (fun h => nomatch h) ?_
  show am l D aC "BubbleBox" cB_openNewPage 3 none false [] am_G0 (am_rm 11) 0 0 0 0 0 [(0, .ref (ad 0)), (1, .ref (ad (6 + e1)))] [] (am_w ad aC I J) (am_lv ad aC Q) (am_lx ad aC X)
  refine am_aload_n 0 dB_openNewPage_0 rfl rfl ?_
  refine kV_B_neededFreePage dB_openNewPage_1 (am_tw kw_479 rfl) (Nat.le_of_ble_eq_true rfl) ⟨Nat.le_of_ble_eq_true rfl, Nat.le_of_ble_eq_true rfl⟩ ⟨Nat.le_of_ble_eq_true rfl, Nat.le_of_ble_eq_true rfl⟩ ⟨Nat.le_of_ble_eq_true rfl, Nat.le_of_ble_eq_true rfl⟩ hlt h (fun r3 I1 J2 h => ?_)
  refine am_istore_n (L2 := [(2, .int r3), (0, .ref (ad 0)), (1, .ref (ad (6 + e1)))]) dB_openNewPage_4 rfl (Nat.le_of_ble_eq_true rfl) rfl ?_
  refine am_aload_n 1 dB_openNewPage_5 rfl rfl ?_
  refine am_aload_n 2 dB_openNewPage_6 rfl rfl ?_
  refine kV_B_save he1 dB_openNewPage_7 (am_tw kw_389 rfl) (Nat.le_of_ble_eq_true rfl) ⟨Nat.le_of_ble_eq_true rfl, Nat.le_of_ble_eq_true rfl⟩ ⟨Nat.le_of_ble_eq_true rfl, Nat.le_of_ble_eq_true rfl⟩ ⟨Nat.le_of_ble_eq_true rfl, Nat.le_of_ble_eq_true rfl⟩ hlt h (fun I4 J5 h => ?_)
  refine am_aload_n 1 dB_openNewPage_10 rfl rfl ?_
  refine go_B_directory dB_openNewPage_11 (am_tw kw_155 rfl) ?_
  refine am_aload_n 2 dB_openNewPage_14 rfl rfl ?_
  refine am_iload_n 0 dB_openNewPage_15 rfl rfl ?_
  refine kVN_D_addPage he1 dB_openNewPage_16 (am_tn kw_492 rfl) (Nat.le_of_ble_eq_true rfl) ⟨Nat.le_of_ble_eq_true rfl, Nat.le_of_ble_eq_true rfl⟩ ⟨Nat.le_of_ble_eq_true rfl, Nat.le_of_ble_eq_true rfl⟩ ⟨Nat.le_of_ble_eq_true rfl, Nat.le_of_ble_eq_true rfl⟩ hlt h (fun I7 J8 h => ?_)
  refine am_aload_n 2 dB_openNewPage_19 rfl rfl ?_
  refine am_iload_n 0 dB_openNewPage_20 rfl rfl ?_
  refine am_lconst (v := 0) dB_openNewPage_21 (by decide) ?_
  refine kVN_E_openWindow he1 dB_openNewPage_22 (am_tn kw_504 rfl) (Nat.le_of_ble_eq_true rfl) ⟨Nat.le_of_ble_eq_true rfl, Nat.le_of_ble_eq_true rfl⟩ ⟨Nat.le_of_ble_eq_true rfl, Nat.le_of_ble_eq_true rfl⟩ ⟨Nat.le_of_ble_eq_true rfl, Nat.le_of_ble_eq_true rfl⟩ hlt h (fun I10 J11 h => ?_)
  exact am_vret dB_openNewPage_25 rfl (Nat.le_of_ble_eq_true rfl) (Nat.le_of_ble_eq_true rfl) ⟨_, _, rfl, rfl, h⟩
section
variable {l : Launch} {D : va_G} {aC : Nat → ClassId} {ad : Nat → Nat} {own : String} {cc : ByteArray} {nL : Nat} {ret : Option FieldType} {ini : Bool} {tb : List (Nat × Nat × Nat × Nat)} {G : State → (Nat → Prop) → Prop} {rm : Room} {mc ms k n pc idx : Nat} {L : List (Nat × Value)} {st rest : List Value} {I : am_MI} {J : am_MJ} {Q : Option Value → va_W → Prop} {X : String → va_W → Prop}
theorem kV_B_openNewPage {e1 : Nat} {K : am_MI → am_MJ → Prop} {X1 : String → am_MI → am_MJ → Prop} (he1 : e1 < 8) (hd : decode cc pc = .ok (.invokevirtual idx, 3)) (hlink : Cond.methodLink own idx yB_openNewPage ∈ am_TW) (hcat : (rest.map fun v => v.category).sum ≤ 8) (hR : 11 + 1 ≤ rm.frames ∧ 8 + (3 + 11) + 38 * 11 ≤ rm.locals) (hk : k + 1 ≤ rm.cells ∧ n + 6 ≤ rm.slots) (hm : k ≤ mc ∧ n ≤ ms) (hlt : l.stackTraces = false) (h : w_B_openNewPage e1 I J K X1) (kk : ∀ (I1 : am_MI) (J1 : am_MJ), K I1 J1 → am l D aC own cc nL ret ini [] G rm mc ms k n (pc + 3) L rest (am_w ad aC I1 J1) Q (am_lx ad aC X1)) : am l D aC own cc nL ret ini [] G rm mc ms k n pc L (.ref (ad (6 + e1)) :: .ref (ad 0) :: rest) (am_w ad aC I J) Q (am_lx ad aC X1) := by
  refine am_callV 0 0 (As := [.ref (ad (6 + e1))]) (N9 := 1) (t_B_openNewPage hlt he1 h) hd rfl (am_w_at ad aC I J (by omega)) rfl hlink (am_tw kw_478 rfl) (am_tw kw_477 rfl) ks_31 (am_tw kw_1 rfl) (by decide +kernel) rfl hcat ⟨rfl, rfl⟩ hR hk (fun E ws1 hx => am_out (fun x hx => nomatch hx) (Nat.add_le_add_right hm.1 1) (Nat.add_le_add_right hm.2 6) hx) ?_
  intro v ws1 hq
  obtain ⟨I1, J1, rfl, rfl, hq⟩ := hq
  exact kk I1 J1 hq
end
def w_B_serve_21 (x1 : Int64) (x3 : Int32) (I : am_MI) (J : am_MJ) (Q : Int32 → am_MI → am_MJ → Prop) (X : String → am_MI → am_MJ → Prop) : Prop :=
  ∀ P21 : Int32 → am_MI → am_MJ → Prop, (∀ (x3 : Int32) (I : am_MI) (J : am_MJ), (((I 17 6) ≤ x3 → (Q (((J 1 4) - x1).toInt32) I J)) ∧ (¬ ((I 17 6) ≤ x3) → (w_R_takeNearest I J (fun (r10 : Int32) (I8 : am_MI) (J9 : am_MJ) => (r10 = ((-1) : Int32) → (P21 (x3 + 1) I8 J9)) ∧ (¬ (r10 = ((-1) : Int32)) → (w_B_transferAsked r10 I8 J9 (fun (I12 : am_MI) (J13 : am_MJ) => P21 (x3 + 1) I12 J13) X))) (fun _ _ _ => False)))) → P21 x3 I J) → P21 x3 I J
set_option maxRecDepth 20000 in
theorem t_B_serve_21 {l : Launch} {D : va_G} {aC : Nat → ClassId} {ad : Nat → Nat} (hlt : l.stackTraces = false) {x1 : Int64} {x3 : Int32} {I : am_MI} {J : am_MJ} {Q} {X} (h : w_B_serve_21 x1 x3 I J Q X) : am l D aC "BubbleBox" cB_serve 5 (some .int) false [] am_G0 (am_rm 11) 0 0 0 0 21 [(0, .ref (ad 0)), (1, .long x1), (3, .int x3)] [] (am_w ad aC I J) (am_li ad aC Q) (am_lx ad aC X) := by
  unfold w_B_serve_21 at h
  refine h (fun (x3 : Int32) (I : am_MI) (J : am_MJ) => am l D aC "BubbleBox" cB_serve 5 (some .int) false [] am_G0 (am_rm 11) 0 0 0 0 21 [(0, .ref (ad 0)), (1, .long x1), (3, .int x3)] [] (am_w ad aC I J) (am_li ad aC Q) (am_lx ad aC X)) (fun x3 I J h => ?_)
  refine am_iload_n 2 dB_serve_21 rfl rfl ?_
  refine am_aload_n 0 dB_serve_22 rfl rfl ?_
  refine go_B_requests dB_serve_23 (am_tw kw_156 rfl) ?_
  refine gn_R_answered dB_serve_26 (am_tn kw_126 rfl) ?_
  refine am_icmp_ge 63 dB_serve_29 (by decide) (fun hc7 => ?_) (fun hc7 => ?_)
  · replace h := h.1 hc7
    refine am_aload_n 0 dB_serve_63 rfl rfl ?_
    refine go_B_chip dB_serve_64 (am_tw kw_154 rfl) ?_
    refine gn_C_stepsTaken dB_serve_67 (am_tn kw_37 rfl) ?_
    refine am_lload_n 1 dB_serve_70 rfl rfl ?_
    refine am_lsub dB_serve_71 ?_
    refine am_l2i dB_serve_72 ?_
    exact am_iret dB_serve_73 rfl (Nat.le_of_ble_eq_true rfl) (Nat.le_of_ble_eq_true rfl) ⟨_, _, _, rfl, rfl, h⟩
  · replace h := h.2 hc7
    refine am_aload_n 0 dB_serve_32 rfl rfl ?_
    refine go_B_requests dB_serve_33 (am_tw kw_156 rfl) ?_
    refine am_aload_n 0 dB_serve_36 rfl rfl ?_
    refine go_B_chip dB_serve_37 (am_tw kw_154 rfl) ?_
    refine kVN_R_takeNearest dB_serve_40 (am_tn kw_627 rfl) (Nat.le_of_ble_eq_true rfl) ⟨Nat.le_of_ble_eq_true rfl, Nat.le_of_ble_eq_true rfl⟩ ⟨Nat.le_of_ble_eq_true rfl, Nat.le_of_ble_eq_true rfl⟩ ⟨Nat.le_of_ble_eq_true rfl, Nat.le_of_ble_eq_true rfl⟩ hlt h (fun r10 I8 J9 h => ?_)
    refine am_istore (L2 := [(4, .int r10), (0, .ref (ad 0)), (1, .long x1), (3, .int x3)]) dB_serve_43 (Nat.le_of_ble_eq_true rfl) rfl ?_
    refine am_iload 0 dB_serve_45 rfl ?_
    refine am_iconst (v := (-1)) dB_serve_47 (by decide) ?_
    refine am_icmp_eq 57 dB_serve_48 (by decide) (fun hc11 => ?_) (fun hc11 => ?_)
    · replace h := h.1 hc11
      refine am_iinc (j := 3) (v := x3 + 1) (L2 := [(3, .int (x3 + 1)), (4, .int r10), (0, .ref (ad 0)), (1, .long x1)]) dB_serve_57 rfl (congrArg (x3 + ·) (by decide : Int32.ofInt (1) = 1)) (Nat.le_of_ble_eq_true rfl) rfl ?_
      refine am_goto 21 dB_serve_60 (by decide) ?_
      exact am_sub [2, 3, 0] rfl h
    · replace h := h.2 hc11
      refine am_aload_n 1 dB_serve_51 rfl rfl ?_
      refine am_iload 0 dB_serve_52 rfl ?_
      refine kV_B_transferAsked dB_serve_54 (am_tw kw_632 rfl) (Nat.le_of_ble_eq_true rfl) ⟨Nat.le_of_ble_eq_true rfl, Nat.le_of_ble_eq_true rfl⟩ ⟨Nat.le_of_ble_eq_true rfl, Nat.le_of_ble_eq_true rfl⟩ ⟨Nat.le_of_ble_eq_true rfl, Nat.le_of_ble_eq_true rfl⟩ hlt h (fun I12 J13 h => ?_)
      refine am_iinc (j := 3) (v := x3 + 1) (L2 := [(3, .int (x3 + 1)), (4, .int r10), (0, .ref (ad 0)), (1, .long x1)]) dB_serve_57 rfl (congrArg (x3 + ·) (by decide : Int32.ofInt (1) = 1)) (Nat.le_of_ble_eq_true rfl) rfl ?_
      refine am_goto 21 dB_serve_60 (by decide) ?_
      exact am_sub [2, 3, 0] rfl h

def w_B_serve (I : am_MI) (J : am_MJ) (Q : Int32 → am_MI → am_MJ → Prop) (X : String → am_MI → am_MJ → Prop) : Prop :=
  w_B_needMounted I J (fun (I1 : am_MI) (J2 : am_MJ) => w_R_begin I1 J2 (fun (I4 : am_MI) (J5 : am_MJ) => w_B_serve_21 (J2 1 4) (0 : Int32) I4 J5 Q X) (fun _ _ _ => False)) X
set_option maxRecDepth 20000 in
theorem t_B_serve {l : Launch} {D : va_G} {aC : Nat → ClassId} {ad : Nat → Nat} (hlt : l.stackTraces = false) {I : am_MI} {J : am_MJ} {Q} {X} (h : w_B_serve I J Q X) : am_c l D aC yB_serve (.code yB_serve cB_serve 5 (some .int)) (am_rm 11) 0 0 [.ref (ad 0)] (am_w ad aC I J) (am_li ad aC Q) (am_lx ad aC X) := by
  unfold w_B_serve at h
  refine am_of (ini := false) hlt (by decide +kernel) (Nat.le_of_ble_eq_true rfl) (fun h => nomatch h) ?_
  show am l D aC "BubbleBox" cB_serve 5 (some .int) false [] am_G0 (am_rm 11) 0 0 0 0 0 [(0, .ref (ad 0))] [] (am_w ad aC I J) (am_li ad aC Q) (am_lx ad aC X)
  refine am_aload_n 0 dB_serve_0 rfl rfl ?_
  refine kV_B_needMounted dB_serve_1 (am_tw kw_423 rfl) (Nat.le_of_ble_eq_true rfl) ⟨Nat.le_of_ble_eq_true rfl, Nat.le_of_ble_eq_true rfl⟩ ⟨Nat.le_of_ble_eq_true rfl, Nat.le_of_ble_eq_true rfl⟩ ⟨Nat.le_of_ble_eq_true rfl, Nat.le_of_ble_eq_true rfl⟩ hlt h (fun I1 J2 h => ?_)
  refine am_aload_n 0 dB_serve_4 rfl rfl ?_
  refine go_B_chip dB_serve_5 (am_tw kw_154 rfl) ?_
  refine gn_C_stepsTaken dB_serve_8 (am_tn kw_37 rfl) ?_
  refine am_lstore_n (L2 := [(1, .long (J2 1 4)), (0, .ref (ad 0))]) dB_serve_11 rfl (Nat.le_of_ble_eq_true rfl) rfl ?_
  refine am_aload_n 1 dB_serve_12 rfl rfl ?_
  refine go_B_requests dB_serve_13 (am_tw kw_156 rfl) ?_
  refine kVN_R_begin dB_serve_16 (am_tn kw_623 rfl) (Nat.le_of_ble_eq_true rfl) ⟨Nat.le_of_ble_eq_true rfl, Nat.le_of_ble_eq_true rfl⟩ ⟨Nat.le_of_ble_eq_true rfl, Nat.le_of_ble_eq_true rfl⟩ ⟨Nat.le_of_ble_eq_true rfl, Nat.le_of_ble_eq_true rfl⟩ hlt h (fun I4 J5 h => ?_)
  refine am_iconst (v := 0) dB_serve_19 (by decide) ?_
  refine am_istore_n (L2 := [(3, .int 0), (1, .long (J2 1 4)), (0, .ref (ad 0))]) dB_serve_20 rfl (Nat.le_of_ble_eq_true rfl) rfl ?_
  exact am_sub [2, 1, 0] rfl (t_B_serve_21 hlt h)
section
variable {l : Launch} {D : va_G} {aC : Nat → ClassId} {ad : Nat → Nat} {own : String} {cc : ByteArray} {nL : Nat} {ret : Option FieldType} {ini : Bool} {tb : List (Nat × Nat × Nat × Nat)} {G : State → (Nat → Prop) → Prop} {rm : Room} {mc ms k n pc idx : Nat} {L : List (Nat × Value)} {st rest : List Value} {I : am_MI} {J : am_MJ} {Q : Option Value → va_W → Prop} {X : String → va_W → Prop}
theorem kX_B_serve {K : Int32 → am_MI → am_MJ → Prop} {X1 : String → am_MI → am_MJ → Prop} (hd : decode cc pc = .ok (.invokevirtual idx, 3)) (hlink : Cond.methodLink own idx yB_serve ∈ am_TW) (hcat : (rest.map fun v => v.category).sum ≤ 8) (hR : 11 + 1 ≤ rm.frames ∧ 8 + (5 + 11) + 38 * 11 ≤ rm.locals) (hk : k + 1 ≤ rm.cells ∧ n + 6 ≤ rm.slots) (hlt : l.stackTraces = false) (h : w_B_serve I J K X1) (kx : ∀ (E : String) (I1 : am_MI) (J1 : am_MJ), X1 E I1 J1 → am_t l D aC own cc nL ret ini tb G rm mc ms (k + 1) (n + 6) pc L E (am_w ad aC I1 J1) Q X) (kk : ∀ (r : Int32) (I1 : am_MI) (J1 : am_MJ), K r I1 J1 → am l D aC own cc nL ret ini tb G rm mc ms k n (pc + 3) L (.int r :: rest) (am_w ad aC I1 J1) Q X) : am l D aC own cc nL ret ini tb G rm mc ms k n pc L (.ref (ad 0) :: rest) (am_w ad aC I J) Q X := by
  refine am_callV 0 0 (As := []) (N9 := 0) (t_B_serve hlt h) hd rfl (am_w_at ad aC I J (by omega)) rfl hlink (am_tw kw_622 rfl) (am_tw kw_620 rfl) (am_tw kw_621 rfl) (am_tw kw_1 rfl) (by decide +kernel) rfl hcat ⟨rfl, rfl⟩ hR hk (fun E ws1 hx => ?_) ?_
  · obtain ⟨I1, J1, rfl, hx⟩ := hx
    exact kx E I1 J1 hx
  · intro v ws1 hq
    obtain ⟨r, I1, J1, rfl, rfl, hq⟩ := hq
    exact kk r I1 J1 hq
end
def w_B_writeAll_10 (x1 : Int64) (x3 : Int32) (I : am_MI) (J : am_MJ) (Q : Int32 → am_MI → am_MJ → Prop) (X : String → am_MI → am_MJ → Prop) : Prop :=
  ∀ P10 : Int32 → am_MI → am_MJ → Prop, (∀ (x3 : Int32) (I : am_MI) (J : am_MJ), (((8 : Int32) ≤ x3 → (w_B_writeOtherImage I J (fun (I2 : am_MI) (J3 : am_MJ) => w_D_holdOwned I2 J3 (fun (I5 : am_MI) (J6 : am_MJ) => Q (((J6 1 4) - x1).toInt32) I5 J6) (fun _ _ _ => False)) X)) ∧ (¬ ((8 : Int32) ≤ x3) → (vp_in x3 8 ∧ (w_B_save x3.toNatClampNeg I J (fun (I9 : am_MI) (J10 : am_MJ) => P10 (x3 + 1) I9 J10) X)))) → P10 x3 I J) → P10 x3 I J
set_option maxRecDepth 20000 in
theorem t_B_writeAll_10 {l : Launch} {D : va_G} {aC : Nat → ClassId} {ad : Nat → Nat} (hlt : l.stackTraces = false) {x1 : Int64} {x3 : Int32} {I : am_MI} {J : am_MJ} {Q} {X} (h : w_B_writeAll_10 x1 x3 I J Q X) : am l D aC "BubbleBox" cB_writeAll 4 (some .int) false [] am_G0 (am_rm 11) 0 0 0 0 10 [(0, .ref (ad 0)), (1, .long x1), (3, .int x3)] [] (am_w ad aC I J) (am_li ad aC Q) (am_lx ad aC X) := by
  unfold w_B_writeAll_10 at h
  refine h (fun (x3 : Int32) (I : am_MI) (J : am_MJ) => am l D aC "BubbleBox" cB_writeAll 4 (some .int) false [] am_G0 (am_rm 11) 0 0 0 0 10 [(0, .ref (ad 0)), (1, .long x1), (3, .int x3)] [] (am_w ad aC I J) (am_li ad aC Q) (am_lx ad aC X)) (fun x3 I J h => ?_)
  refine am_iload_n 2 dB_writeAll_10 rfl rfl ?_
  refine am_bipush (v := 8) dB_writeAll_11 (by decide) ?_
  refine am_icmp_ge 35 dB_writeAll_13 (by decide) (fun hc1 => ?_) (fun hc1 => ?_)
  · replace h := h.1 hc1
    refine am_aload_n 0 dB_writeAll_35 rfl rfl ?_
    refine kV_B_writeOtherImage dB_writeAll_36 (am_tw kw_397 rfl) (Nat.le_of_ble_eq_true rfl) ⟨Nat.le_of_ble_eq_true rfl, Nat.le_of_ble_eq_true rfl⟩ ⟨Nat.le_of_ble_eq_true rfl, Nat.le_of_ble_eq_true rfl⟩ ⟨Nat.le_of_ble_eq_true rfl, Nat.le_of_ble_eq_true rfl⟩ hlt h (fun I2 J3 h => ?_)
    refine am_aload_n 0 dB_writeAll_39 rfl rfl ?_
    refine go_B_directory dB_writeAll_40 (am_tw kw_155 rfl) ?_
    refine kVN_D_holdOwned dB_writeAll_43 (am_tn kw_414 rfl) (Nat.le_of_ble_eq_true rfl) ⟨Nat.le_of_ble_eq_true rfl, Nat.le_of_ble_eq_true rfl⟩ ⟨Nat.le_of_ble_eq_true rfl, Nat.le_of_ble_eq_true rfl⟩ ⟨Nat.le_of_ble_eq_true rfl, Nat.le_of_ble_eq_true rfl⟩ hlt h (fun I5 J6 h => ?_)
    refine am_aload_n 0 dB_writeAll_46 rfl rfl ?_
    refine go_B_chip dB_writeAll_47 (am_tw kw_154 rfl) ?_
    refine gn_C_stepsTaken dB_writeAll_50 (am_tn kw_37 rfl) ?_
    refine am_lload_n 1 dB_writeAll_53 rfl rfl ?_
    refine am_lsub dB_writeAll_54 ?_
    refine am_l2i dB_writeAll_55 ?_
    exact am_iret dB_writeAll_56 rfl (Nat.le_of_ble_eq_true rfl) (Nat.le_of_ble_eq_true rfl) ⟨_, _, _, rfl, rfl, h⟩
  · replace h := h.2 hc1
    refine am_aload_n 0 dB_writeAll_16 rfl rfl ?_
    refine am_aload_n 0 dB_writeAll_17 rfl rfl ?_
    refine go_B_directory dB_writeAll_18 (am_tw kw_155 rfl) ?_
    refine gn_D_entries dB_writeAll_21 (am_tn kw_93 rfl) ?_
    refine am_iload_n 2 dB_writeAll_24 rfl rfl ?_
    obtain ⟨hi8, h⟩ := h
    refine al_5 hi8 dB_writeAll_25 ?_
    refine kV_B_save (am_lt hi8) dB_writeAll_26 (am_tw kw_389 rfl) (Nat.le_of_ble_eq_true rfl) ⟨Nat.le_of_ble_eq_true rfl, Nat.le_of_ble_eq_true rfl⟩ ⟨Nat.le_of_ble_eq_true rfl, Nat.le_of_ble_eq_true rfl⟩ ⟨Nat.le_of_ble_eq_true rfl, Nat.le_of_ble_eq_true rfl⟩ hlt h (fun I9 J10 h => ?_)
    refine am_iinc (j := 2) (v := x3 + 1) (L2 := [(3, .int (x3 + 1)), (0, .ref (ad 0)), (1, .long x1)]) dB_writeAll_29 rfl (congrArg (x3 + ·) (by decide : Int32.ofInt (1) = 1)) (Nat.le_of_ble_eq_true rfl) rfl ?_
    refine am_goto 10 dB_writeAll_32 (by decide) ?_
    exact am_sub [1, 2, 0] rfl h

def w_B_writeAll (I : am_MI) (J : am_MJ) (Q : Int32 → am_MI → am_MJ → Prop) (X : String → am_MI → am_MJ → Prop) : Prop :=
  w_B_writeAll_10 (J 1 4) (0 : Int32) I J Q X
set_option maxRecDepth 20000 in
theorem t_B_writeAll {l : Launch} {D : va_G} {aC : Nat → ClassId} {ad : Nat → Nat} (hlt : l.stackTraces = false) {I : am_MI} {J : am_MJ} {Q} {X} (h : w_B_writeAll I J Q X) : am_c l D aC yB_writeAll (.code yB_writeAll cB_writeAll 4 (some .int)) (am_rm 11) 0 0 [.ref (ad 0)] (am_w ad aC I J) (am_li ad aC Q) (am_lx ad aC X) := by
  unfold w_B_writeAll at h
  refine am_of (ini := false) hlt (by decide +kernel) (Nat.le_of_ble_eq_true rfl) (fun h => nomatch h) ?_
  show am l D aC "BubbleBox" cB_writeAll 4 (some .int) false [] am_G0 (am_rm 11) 0 0 0 0 0 [(0, .ref (ad 0))] [] (am_w ad aC I J) (am_li ad aC Q) (am_lx ad aC X)
  refine am_aload_n 0 dB_writeAll_0 rfl rfl ?_
  refine go_B_chip dB_writeAll_1 (am_tw kw_154 rfl) ?_
  refine gn_C_stepsTaken dB_writeAll_4 (am_tn kw_37 rfl) ?_
  refine am_lstore_n (L2 := [(1, .long (J 1 4)), (0, .ref (ad 0))]) dB_writeAll_7 rfl (Nat.le_of_ble_eq_true rfl) rfl ?_
  refine am_iconst (v := 0) dB_writeAll_8 (by decide) ?_
  refine am_istore_n (L2 := [(3, .int 0), (1, .long (J 1 4)), (0, .ref (ad 0))]) dB_writeAll_9 rfl (Nat.le_of_ble_eq_true rfl) rfl ?_
  exact am_sub [2, 1, 0] rfl (t_B_writeAll_10 hlt h)
section
variable {l : Launch} {D : va_G} {aC : Nat → ClassId} {ad : Nat → Nat} {own : String} {cc : ByteArray} {nL : Nat} {ret : Option FieldType} {ini : Bool} {tb : List (Nat × Nat × Nat × Nat)} {G : State → (Nat → Prop) → Prop} {rm : Room} {mc ms k n pc idx : Nat} {L : List (Nat × Value)} {st rest : List Value} {I : am_MI} {J : am_MJ} {Q : Option Value → va_W → Prop} {X : String → va_W → Prop}
theorem kV_B_writeAll {K : Int32 → am_MI → am_MJ → Prop} {X1 : String → am_MI → am_MJ → Prop} (hd : decode cc pc = .ok (.invokevirtual idx, 3)) (hlink : Cond.methodLink own idx yB_writeAll ∈ am_TW) (hcat : (rest.map fun v => v.category).sum ≤ 8) (hR : 11 + 1 ≤ rm.frames ∧ 8 + (4 + 11) + 38 * 11 ≤ rm.locals) (hk : k + 1 ≤ rm.cells ∧ n + 6 ≤ rm.slots) (hm : k ≤ mc ∧ n ≤ ms) (hlt : l.stackTraces = false) (h : w_B_writeAll I J K X1) (kk : ∀ (r : Int32) (I1 : am_MI) (J1 : am_MJ), K r I1 J1 → am l D aC own cc nL ret ini [] G rm mc ms k n (pc + 3) L (.int r :: rest) (am_w ad aC I1 J1) Q (am_lx ad aC X1)) : am l D aC own cc nL ret ini [] G rm mc ms k n pc L (.ref (ad 0) :: rest) (am_w ad aC I J) Q (am_lx ad aC X1) := by
  refine am_callV 0 0 (As := []) (N9 := 0) (t_B_writeAll hlt h) hd rfl (am_w_at ad aC I J (by omega)) rfl hlink (am_tw kw_388 rfl) (am_tw kw_387 rfl) ks_21 (am_tw kw_1 rfl) (by decide +kernel) rfl hcat ⟨rfl, rfl⟩ hR hk (fun E ws1 hx => am_out (fun x hx => nomatch hx) (Nat.add_le_add_right hm.1 1) (Nat.add_le_add_right hm.2 6) hx) ?_
  intro v ws1 hq
  obtain ⟨r, I1, J1, rfl, rfl, hq⟩ := hq
  exact kk r I1 J1 hq
end

def w_B_byteAt (a0 : Int32) (a1 : Int32) (I : am_MI) (J : am_MJ) (Q : Int32 → am_MI → am_MJ → Prop) (X : String → am_MI → am_MJ → Prop) : Prop :=
  w_B_entryOf a0 I J (fun (r3 : Nat) (I1 : am_MI) (J2 : am_MJ) => (a1 < 0 → (X "java/lang/IndexOutOfBoundsException" I1 J2)) ∧ (¬ (a1 < 0) → ((a1 < (I1 (6 + r3) 2) → (w_D_pageAt r3 (a1 / (8 : Int32)) I1 J2 (fun (r9 : Int32) (I7 : am_MI) (J8 : am_MJ) => w_B_load r3 r9 I7 J8 (fun (I10 : am_MI) (J11 : am_MJ) => w_E_byteInWindow r3 (a1 - a1 / (8 : Int32) * (8 : Int32)) I10 J11 (fun (r15 : Int32) (I13 : am_MI) (J14 : am_MJ) => Q r15 I13 J14) (fun _ _ _ => False)) X) (fun _ _ _ => False))) ∧ (¬ (a1 < (I1 (6 + r3) 2)) → (X "java/lang/IndexOutOfBoundsException" I1 J2))))) X
set_option maxRecDepth 20000 in
theorem t_B_byteAt {l : Launch} {D : va_G} {aC : Nat → ClassId} {ad : Nat → Nat} (hlt : l.stackTraces = false) {a0 : Int32} {a1 : Int32} {I : am_MI} {J : am_MJ} {Q} {X} (h : w_B_byteAt a0 a1 I J Q X) : am_c l D aC yB_byteAt (.code yB_byteAt cB_byteAt 4 (some .int)) (am_rm 12) 0 0 [.ref (ad 0), .int a0, .int a1] (am_w ad aC I J) (am_li ad aC Q) (am_lx ad aC X) := by
  unfold w_B_byteAt at h
  refine am_of (ini := false) hlt (by decide +kernel) (Nat.le_of_ble_eq_true rfl) (fun h => nomatch h) ?_
  show am l D aC "BubbleBox" cB_byteAt 4 (some .int) false [] am_G0 (am_rm 12) 0 0 0 0 0 [(0, .ref (ad 0)), (1, .int a0), (2, .int a1)] [] (am_w ad aC I J) (am_li ad aC Q) (am_lx ad aC X)
  refine am_aload_n 0 dB_byteAt_0 rfl rfl ?_
  refine am_iload_n 1 dB_byteAt_1 rfl rfl ?_
  refine kV_B_entryOf dB_byteAt_2 (am_tw kw_463 rfl) (Nat.le_of_ble_eq_true rfl) ⟨Nat.le_of_ble_eq_true rfl, Nat.le_of_ble_eq_true rfl⟩ ⟨Nat.le_of_ble_eq_true rfl, Nat.le_of_ble_eq_true rfl⟩ ⟨Nat.le_of_ble_eq_true rfl, Nat.le_of_ble_eq_true rfl⟩ hlt h (fun r3 I1 J2 he4 h => ?_)
  refine am_astore_n (L2 := [(3, .ref (ad (6 + r3))), (0, .ref (ad 0)), (1, .int a0), (2, .int a1)]) dB_byteAt_5 rfl (Nat.le_of_ble_eq_true rfl) rfl ?_
  refine am_iload_n 3 dB_byteAt_6 rfl rfl ?_
  refine am_if_lt 18 dB_byteAt_7 (by decide) (fun hc5 => ?_) (fun hc5 => ?_)
  · replace h := h.1 hc5
    exact th_ioobe_150 dB_byteAt_18 dB_byteAt_21 dB_byteAt_22 dB_byteAt_24 dB_byteAt_27 (Nat.le_of_ble_eq_true rfl) ⟨_, _, rfl, h⟩
  · replace h := h.2 hc5
    refine am_iload_n 3 dB_byteAt_10 rfl rfl ?_
    refine am_aload_n 0 dB_byteAt_11 rfl rfl ?_
    refine gn_E_bytes he4 dB_byteAt_12 (am_tn kw_71 rfl) ?_
    refine am_icmp_lt 28 dB_byteAt_15 (by decide) (fun hc6 => ?_) (fun hc6 => ?_)
    · replace h := h.1 hc6
      refine am_aload_n 1 dB_byteAt_28 rfl rfl ?_
      refine am_aload_n 0 dB_byteAt_29 rfl rfl ?_
      refine am_aload_n 1 dB_byteAt_30 rfl rfl ?_
      refine go_B_directory dB_byteAt_31 (am_tw kw_155 rfl) ?_
      refine am_aload_n 0 dB_byteAt_34 rfl rfl ?_
      refine am_iload_n 3 dB_byteAt_35 rfl rfl ?_
      refine am_bipush (v := 8) dB_byteAt_36 (by decide) ?_
      refine am_idiv dB_byteAt_38 (by decide) ?_
      refine kVN_D_pageAt he4 dB_byteAt_39 (am_tn kw_510 rfl) (Nat.le_of_ble_eq_true rfl) ⟨Nat.le_of_ble_eq_true rfl, Nat.le_of_ble_eq_true rfl⟩ ⟨Nat.le_of_ble_eq_true rfl, Nat.le_of_ble_eq_true rfl⟩ ⟨Nat.le_of_ble_eq_true rfl, Nat.le_of_ble_eq_true rfl⟩ hlt h (fun r9 I7 J8 h => ?_)
      refine kV_B_load he4 dB_byteAt_42 (am_tw kw_511 rfl) (Nat.le_of_ble_eq_true rfl) ⟨Nat.le_of_ble_eq_true rfl, Nat.le_of_ble_eq_true rfl⟩ ⟨Nat.le_of_ble_eq_true rfl, Nat.le_of_ble_eq_true rfl⟩ ⟨Nat.le_of_ble_eq_true rfl, Nat.le_of_ble_eq_true rfl⟩ hlt h (fun I10 J11 h => ?_)
      refine am_aload_n 0 dB_byteAt_45 rfl rfl ?_
      refine am_iload_n 3 dB_byteAt_46 rfl rfl ?_
      refine am_bipush (v := 8) dB_byteAt_47 (by decide) ?_
      refine am_irem dB_byteAt_49 (by decide) ?_
      refine kVN_E_byteInWindow he4 dB_byteAt_50 (am_tn kw_549 rfl) (Nat.le_of_ble_eq_true rfl) ⟨Nat.le_of_ble_eq_true rfl, Nat.le_of_ble_eq_true rfl⟩ ⟨Nat.le_of_ble_eq_true rfl, Nat.le_of_ble_eq_true rfl⟩ ⟨Nat.le_of_ble_eq_true rfl, Nat.le_of_ble_eq_true rfl⟩ hlt h (fun r15 I13 J14 h => ?_)
      exact am_iret dB_byteAt_53 rfl (Nat.le_of_ble_eq_true rfl) (Nat.le_of_ble_eq_true rfl) ⟨_, _, _, rfl, rfl, h⟩
    · replace h := h.2 hc6
      exact th_ioobe_150 dB_byteAt_18 dB_byteAt_21 dB_byteAt_22 dB_byteAt_24 dB_byteAt_27 (Nat.le_of_ble_eq_true rfl) ⟨_, _, rfl, h⟩
section
variable {l : Launch} {D : va_G} {aC : Nat → ClassId} {ad : Nat → Nat} {own : String} {cc : ByteArray} {nL : Nat} {ret : Option FieldType} {ini : Bool} {tb : List (Nat × Nat × Nat × Nat)} {G : State → (Nat → Prop) → Prop} {rm : Room} {mc ms k n pc idx : Nat} {L : List (Nat × Value)} {st rest : List Value} {I : am_MI} {J : am_MJ} {Q : Option Value → va_W → Prop} {X : String → va_W → Prop}
theorem kX_B_byteAt {a0 : Int32} {a1 : Int32} {K : Int32 → am_MI → am_MJ → Prop} {X1 : String → am_MI → am_MJ → Prop} (hd : decode cc pc = .ok (.invokevirtual idx, 3)) (hlink : Cond.methodLink own idx yB_byteAt ∈ am_TW) (hcat : (rest.map fun v => v.category).sum ≤ 8) (hR : 12 + 1 ≤ rm.frames ∧ 8 + (4 + 11) + 38 * 12 ≤ rm.locals) (hk : k + 1 ≤ rm.cells ∧ n + 6 ≤ rm.slots) (hlt : l.stackTraces = false) (h : w_B_byteAt a0 a1 I J K X1) (kx : ∀ (E : String) (I1 : am_MI) (J1 : am_MJ), X1 E I1 J1 → am_t l D aC own cc nL ret ini tb G rm mc ms (k + 1) (n + 6) pc L E (am_w ad aC I1 J1) Q X) (kk : ∀ (r : Int32) (I1 : am_MI) (J1 : am_MJ), K r I1 J1 → am l D aC own cc nL ret ini tb G rm mc ms k n (pc + 3) L (.int r :: rest) (am_w ad aC I1 J1) Q X) : am l D aC own cc nL ret ini tb G rm mc ms k n pc L (.int a1 :: .int a0 :: .ref (ad 0) :: rest) (am_w ad aC I J) Q X := by
  refine am_callV 0 0 (As := [.int a0, .int a1]) (N9 := 2) (t_B_byteAt hlt h) hd rfl (am_w_at ad aC I J (by omega)) rfl hlink (am_tw kw_532 rfl) (am_tw kw_530 rfl) (am_tw kw_531 rfl) (am_tw kw_1 rfl) (by decide +kernel) rfl hcat ⟨rfl, rfl⟩ hR hk (fun E ws1 hx => ?_) ?_
  · obtain ⟨I1, J1, rfl, hx⟩ := hx
    exact kx E I1 J1 hx
  · intro v ws1 hq
    obtain ⟨r, I1, J1, rfl, rfl, hq⟩ := hq
    exact kk r I1 J1 hq
end

def w_B_format (I : am_MI) (J : am_MJ) (Q : Int32 → am_MI → am_MJ → Prop) (X : String → am_MI → am_MJ → Prop) : Prop :=
  (¬ (I 0 4) = 0 → (w_C_goodLoops I J (fun (r4 : Int32) (I2 : am_MI) (J3 : am_MJ) => ((64 : Int32) ≤ r4 → (w_C_clearPages (am_ui I2 1 2 (1 : Int32)) (am_uj J3 1 4 ((J3 1 4) + (202 : Int64))) (fun (I6 : am_MI) (J7 : am_MJ) => w_B_forgetAll I6 J7 (fun (I9 : am_MI) (J10 : am_MJ) => w_B_writeAll (am_ui (am_ui (am_ui I9 0 4 (2 : Int32)) 0 6 (1 : Int32)) 0 7 (255 : Int32)) J10 (fun (r14 : Int32) (I12 : am_MI) (J13 : am_MJ) => Q 1 I12 J13) X) X) (fun _ _ _ => False))) ∧ (¬ ((64 : Int32) ≤ r4) → (Q 0 I2 J3))) (fun _ _ _ => False))) ∧ ((I 0 4) = 0 → (X "java/lang/IllegalStateException" I J))
set_option maxRecDepth 20000 in
theorem t_B_format {l : Launch} {D : va_G} {aC : Nat → ClassId} {ad : Nat → Nat} (hlt : l.stackTraces = false) {I : am_MI} {J : am_MJ} {Q} {X} (h : w_B_format I J Q X) : am_c l D aC yB_format (.code yB_format cB_format 1 (some .boolean)) (am_rm 12) 0 0 [.ref (ad 0)] (am_w ad aC I J) (am_li ad aC Q) (am_lx ad aC X) := by
  unfold w_B_format at h
  refine am_of (ini := false) hlt (by decide +kernel) (Nat.le_of_ble_eq_true rfl) (fun h => nomatch h) ?_
  show am l D aC "BubbleBox" cB_format 1 (some .boolean) false [] am_G0 (am_rm 12) 0 0 0 0 0 [(0, .ref (ad 0))] [] (am_w ad aC I J) (am_li ad aC Q) (am_lx ad aC X)
  refine am_aload_n 0 dB_format_0 rfl rfl ?_
  refine go_B_condition dB_format_1 (am_tw kw_158 rfl) ?_
  refine am_if_ne 17 dB_format_4 (by decide) (fun hc1 => ?_) (fun hc1 => ?_)
  · replace h := h.1 hc1
    refine am_aload_n 0 dB_format_17 rfl rfl ?_
    refine go_B_chip dB_format_18 (am_tw kw_154 rfl) ?_
    refine kVN_C_goodLoops dB_format_21 (am_tn kw_376 rfl) (Nat.le_of_ble_eq_true rfl) ⟨Nat.le_of_ble_eq_true rfl, Nat.le_of_ble_eq_true rfl⟩ ⟨Nat.le_of_ble_eq_true rfl, Nat.le_of_ble_eq_true rfl⟩ ⟨Nat.le_of_ble_eq_true rfl, Nat.le_of_ble_eq_true rfl⟩ hlt h (fun r4 I2 J3 h => ?_)
    refine am_bipush (v := 64) dB_format_24 (by decide) ?_
    refine am_icmp_ge 31 dB_format_26 (by decide) (fun hc5 => ?_) (fun hc5 => ?_)
    · replace h := h.1 hc5
      refine am_aload_n 0 dB_format_31 rfl rfl ?_
      refine go_B_chip dB_format_32 (am_tw kw_154 rfl) ?_
      refine am_dup dB_format_35 rfl ?_
      refine gn_C_stepsTaken dB_format_36 (am_tn kw_37 rfl) ?_
      refine am_ldc2 (v := 202) dB_format_39 (am_tw kw_380 rfl) ?_
      refine am_ladd dB_format_42 ?_
      refine pn_C_stepsTaken dB_format_43 (am_tn kw_37 rfl) ?_
      refine am_aload_n 0 dB_format_46 rfl rfl ?_
      refine go_B_chip dB_format_47 (am_tw kw_154 rfl) ?_
      refine am_iconst (v := 1) dB_format_50 (by decide) ?_
      refine pn_C_mapped dB_format_51 (am_tn kw_34 rfl) (by decide) ?_
      refine am_aload_n 0 dB_format_54 rfl rfl ?_
      refine go_B_chip dB_format_55 (am_tw kw_154 rfl) ?_
      refine kVN_C_clearPages dB_format_58 (am_tn kw_381 rfl) (Nat.le_of_ble_eq_true rfl) ⟨Nat.le_of_ble_eq_true rfl, Nat.le_of_ble_eq_true rfl⟩ ⟨Nat.le_of_ble_eq_true rfl, Nat.le_of_ble_eq_true rfl⟩ ⟨Nat.le_of_ble_eq_true rfl, Nat.le_of_ble_eq_true rfl⟩ hlt h (fun I6 J7 h => ?_)
      refine am_aload_n 0 dB_format_61 rfl rfl ?_
      refine kV_B_forgetAll dB_format_62 (am_tw kw_195 rfl) (Nat.le_of_ble_eq_true rfl) ⟨Nat.le_of_ble_eq_true rfl, Nat.le_of_ble_eq_true rfl⟩ ⟨Nat.le_of_ble_eq_true rfl, Nat.le_of_ble_eq_true rfl⟩ ⟨Nat.le_of_ble_eq_true rfl, Nat.le_of_ble_eq_true rfl⟩ hlt h (fun I9 J10 h => ?_)
      refine am_aload_n 0 dB_format_65 rfl rfl ?_
      refine am_iconst (v := 2) dB_format_66 (by decide) ?_
      refine po_B_condition dB_format_67 (am_tw kw_158 rfl) ?_
      refine am_aload_n 0 dB_format_70 rfl rfl ?_
      refine am_iconst (v := 1) dB_format_71 (by decide) ?_
      refine po_B_currentImage dB_format_72 (am_tw kw_160 rfl) ?_
      refine am_aload_n 0 dB_format_75 rfl rfl ?_
      refine am_sipush (v := 255) dB_format_76 (by decide) ?_
      refine po_B_turn dB_format_79 (am_tw kw_161 rfl) ?_
      refine am_aload_n 0 dB_format_82 rfl rfl ?_
      refine kV_B_writeAll dB_format_83 (am_tw kw_385 rfl) (Nat.le_of_ble_eq_true rfl) ⟨Nat.le_of_ble_eq_true rfl, Nat.le_of_ble_eq_true rfl⟩ ⟨Nat.le_of_ble_eq_true rfl, Nat.le_of_ble_eq_true rfl⟩ ⟨Nat.le_of_ble_eq_true rfl, Nat.le_of_ble_eq_true rfl⟩ hlt h (fun r14 I12 J13 h => ?_)
      refine am_pop dB_format_86 rfl ?_
      refine am_iconst (v := 1) dB_format_87 (by decide) ?_
      exact am_zret dB_format_88 rfl (Nat.le_of_ble_eq_true rfl) (Nat.le_of_ble_eq_true rfl) (by decide) ⟨_, _, _, rfl, rfl, h⟩
    · replace h := h.2 hc5
      refine am_iconst (v := 0) dB_format_29 (by decide) ?_
      exact am_zret dB_format_30 rfl (Nat.le_of_ble_eq_true rfl) (Nat.le_of_ble_eq_true rfl) (by decide) ⟨_, _, _, rfl, rfl, h⟩
  · replace h := h.2 hc1
    exact th_ise_76 dB_format_7 dB_format_10 dB_format_11 dB_format_13 dB_format_16 (Nat.le_of_ble_eq_true rfl) ⟨_, _, rfl, h⟩
section
variable {l : Launch} {D : va_G} {aC : Nat → ClassId} {ad : Nat → Nat} {own : String} {cc : ByteArray} {nL : Nat} {ret : Option FieldType} {ini : Bool} {tb : List (Nat × Nat × Nat × Nat)} {G : State → (Nat → Prop) → Prop} {rm : Room} {mc ms k n pc idx : Nat} {L : List (Nat × Value)} {st rest : List Value} {I : am_MI} {J : am_MJ} {Q : Option Value → va_W → Prop} {X : String → va_W → Prop}
theorem kX_B_format {K : Int32 → am_MI → am_MJ → Prop} {X1 : String → am_MI → am_MJ → Prop} (hd : decode cc pc = .ok (.invokevirtual idx, 3)) (hlink : Cond.methodLink own idx yB_format ∈ am_TW) (hcat : (rest.map fun v => v.category).sum ≤ 8) (hR : 12 + 1 ≤ rm.frames ∧ 8 + (1 + 11) + 38 * 12 ≤ rm.locals) (hk : k + 1 ≤ rm.cells ∧ n + 6 ≤ rm.slots) (hlt : l.stackTraces = false) (h : w_B_format I J K X1) (kx : ∀ (E : String) (I1 : am_MI) (J1 : am_MJ), X1 E I1 J1 → am_t l D aC own cc nL ret ini tb G rm mc ms (k + 1) (n + 6) pc L E (am_w ad aC I1 J1) Q X) (kk : ∀ (r : Int32) (I1 : am_MI) (J1 : am_MJ), K r I1 J1 → am l D aC own cc nL ret ini tb G rm mc ms k n (pc + 3) L (.int r :: rest) (am_w ad aC I1 J1) Q X) : am l D aC own cc nL ret ini tb G rm mc ms k n pc L (.ref (ad 0) :: rest) (am_w ad aC I J) Q X := by
  refine am_callV 0 0 (As := []) (N9 := 0) (t_B_format hlt h) hd rfl (am_w_at ad aC I J (by omega)) rfl hlink (am_tw kw_374 rfl) (am_tw kw_372 rfl) (am_tw kw_373 rfl) (am_tw kw_1 rfl) (by decide +kernel) rfl hcat ⟨rfl, rfl⟩ hR hk (fun E ws1 hx => ?_) ?_
  · obtain ⟨I1, J1, rfl, hx⟩ := hx
    exact kx E I1 J1 hx
  · intro v ws1 hq
    obtain ⟨r, I1, J1, rfl, rfl, hq⟩ := hq
    exact kk r I1 J1 hq
end

def w_B_openLastPage (e1 : Nat) (I : am_MI) (J : am_MJ) (Q : am_MI → am_MJ → Prop) (X : String → am_MI → am_MJ → Prop) : Prop :=
  w_B_pagesFor (I (6 + e1) 2) I J (fun (r3 : Int32) (I1 : am_MI) (J2 : am_MJ) => w_D_pageAt e1 (r3 - (1 : Int32)) I1 J2 (fun (r6 : Int32) (I4 : am_MI) (J5 : am_MJ) => vp_in r6 101 ∧ ((¬ (I4 16 r6.toNatClampNeg) = 0 → (w_B_neededFreePage I4 J5 (fun (r11 : Int32) (I9 : am_MI) (J10 : am_MJ) => w_B_load e1 r6 I9 J10 (fun (I12 : am_MI) (J13 : am_MJ) => w_D_replaceLastPage e1 r11 I12 J13 (fun (I15 : am_MI) (J16 : am_MJ) => w_E_openWindow e1 r11 (J16 (6 + e1) 4) I15 J16 (fun (I18 : am_MI) (J19 : am_MJ) => Q I18 J19) (fun _ _ _ => False)) (fun _ _ _ => False)) X) X)) ∧ ((I4 16 r6.toNatClampNeg) = 0 → (w_B_load e1 r6 I4 J5 (fun (I21 : am_MI) (J22 : am_MJ) => Q I21 J22) X)))) (fun _ _ _ => False)) X
set_option maxRecDepth 20000 in
theorem t_B_openLastPage {l : Launch} {D : va_G} {aC : Nat → ClassId} {ad : Nat → Nat} (hlt : l.stackTraces = false) {e1 : Nat} (he1 : e1 < 8) {I : am_MI} {J : am_MJ} {Q} {X} (h : w_B_openLastPage e1 I J Q X) : am_c l D aC yB_openLastPage (.code yB_openLastPage cB_openLastPage 4 none) (am_rm 12) 0 0 [.ref (ad 0), .ref (ad (6 + e1))] (am_w ad aC I J) (am_lv ad aC Q) (am_lx ad aC X) := by
  unfold w_B_openLastPage at h
  refine am_of (ini := false) hlt (by decide +kernel) (Nat.le_of_ble_eq_true rfl) (fun h => nomatch h) ?_
  show am l D aC "BubbleBox" cB_openLastPage 4 none false [] am_G0 (am_rm 12) 0 0 0 0 0 [(0, .ref (ad 0)), (1, .ref (ad (6 + e1)))] [] (am_w ad aC I J) (am_lv ad aC Q) (am_lx ad aC X)
  refine am_aload_n 0 dB_openLastPage_0 rfl rfl ?_
  refine go_B_directory dB_openLastPage_1 (am_tw kw_155 rfl) ?_
  refine am_aload_n 1 dB_openLastPage_4 rfl rfl ?_
  refine am_aload_n 1 dB_openLastPage_5 rfl rfl ?_
  refine gn_E_bytes he1 dB_openLastPage_6 (am_tn kw_71 rfl) ?_
  refine kS_B_pagesFor dB_openLastPage_9 (am_tw kw_509 rfl) (Nat.le_of_ble_eq_true rfl) ⟨Nat.le_of_ble_eq_true rfl, Nat.le_of_ble_eq_true rfl⟩ ⟨Nat.le_of_ble_eq_true rfl, Nat.le_of_ble_eq_true rfl⟩ ⟨Nat.le_of_ble_eq_true rfl, Nat.le_of_ble_eq_true rfl⟩ hlt h (fun r3 I1 J2 h => ?_)
  refine am_iconst (v := 1) dB_openLastPage_12 (by decide) ?_
  refine am_isub dB_openLastPage_13 ?_
  refine kVN_D_pageAt he1 dB_openLastPage_14 (am_tn kw_510 rfl) (Nat.le_of_ble_eq_true rfl) ⟨Nat.le_of_ble_eq_true rfl, Nat.le_of_ble_eq_true rfl⟩ ⟨Nat.le_of_ble_eq_true rfl, Nat.le_of_ble_eq_true rfl⟩ ⟨Nat.le_of_ble_eq_true rfl, Nat.le_of_ble_eq_true rfl⟩ hlt h (fun r6 I4 J5 h => ?_)
  refine am_istore_n (L2 := [(2, .int r6), (0, .ref (ad 0)), (1, .ref (ad (6 + e1)))]) dB_openLastPage_17 rfl (Nat.le_of_ble_eq_true rfl) rfl ?_
  refine am_aload_n 1 dB_openLastPage_18 rfl rfl ?_
  refine go_B_directory dB_openLastPage_19 (am_tw kw_155 rfl) ?_
  refine gn_D_held dB_openLastPage_22 (am_tn kw_97 rfl) ?_
  refine am_iload_n 0 dB_openLastPage_25 rfl rfl ?_
  obtain ⟨hi7, h⟩ := h
  refine ld_16 hi7 dB_openLastPage_26 ?_
  refine am_if_ne 37 dB_openLastPage_27 (by decide) (fun hc8 => ?_) (fun hc8 => ?_)
  · replace h := h.1 hc8
    refine am_aload_n 1 dB_openLastPage_37 rfl rfl ?_
    refine kV_B_neededFreePage dB_openLastPage_38 (am_tw kw_479 rfl) (Nat.le_of_ble_eq_true rfl) ⟨Nat.le_of_ble_eq_true rfl, Nat.le_of_ble_eq_true rfl⟩ ⟨Nat.le_of_ble_eq_true rfl, Nat.le_of_ble_eq_true rfl⟩ ⟨Nat.le_of_ble_eq_true rfl, Nat.le_of_ble_eq_true rfl⟩ hlt h (fun r11 I9 J10 h => ?_)
    refine am_istore_n (L2 := [(3, .int r11), (2, .int r6), (0, .ref (ad 0)), (1, .ref (ad (6 + e1)))]) dB_openLastPage_41 rfl (Nat.le_of_ble_eq_true rfl) rfl ?_
    refine am_aload_n 2 dB_openLastPage_42 rfl rfl ?_
    refine am_aload_n 3 dB_openLastPage_43 rfl rfl ?_
    refine am_iload_n 1 dB_openLastPage_44 rfl rfl ?_
    refine kV_B_load he1 dB_openLastPage_45 (am_tw kw_511 rfl) (Nat.le_of_ble_eq_true rfl) ⟨Nat.le_of_ble_eq_true rfl, Nat.le_of_ble_eq_true rfl⟩ ⟨Nat.le_of_ble_eq_true rfl, Nat.le_of_ble_eq_true rfl⟩ ⟨Nat.le_of_ble_eq_true rfl, Nat.le_of_ble_eq_true rfl⟩ hlt h (fun I12 J13 h => ?_)
    refine am_aload_n 2 dB_openLastPage_48 rfl rfl ?_
    refine go_B_directory dB_openLastPage_49 (am_tw kw_155 rfl) ?_
    refine am_aload_n 3 dB_openLastPage_52 rfl rfl ?_
    refine am_iload_n 0 dB_openLastPage_53 rfl rfl ?_
    refine kVN_D_replaceLastPage he1 dB_openLastPage_54 (am_tn kw_515 rfl) (Nat.le_of_ble_eq_true rfl) ⟨Nat.le_of_ble_eq_true rfl, Nat.le_of_ble_eq_true rfl⟩ ⟨Nat.le_of_ble_eq_true rfl, Nat.le_of_ble_eq_true rfl⟩ ⟨Nat.le_of_ble_eq_true rfl, Nat.le_of_ble_eq_true rfl⟩ hlt h (fun I15 J16 h => ?_)
    refine am_aload_n 3 dB_openLastPage_57 rfl rfl ?_
    refine am_iload_n 0 dB_openLastPage_58 rfl rfl ?_
    refine am_aload_n 3 dB_openLastPage_59 rfl rfl ?_
    refine gn_E_windowBits he1 dB_openLastPage_60 (am_tn kw_76 rfl) ?_
    refine kVN_E_openWindow he1 dB_openLastPage_63 (am_tn kw_504 rfl) (Nat.le_of_ble_eq_true rfl) ⟨Nat.le_of_ble_eq_true rfl, Nat.le_of_ble_eq_true rfl⟩ ⟨Nat.le_of_ble_eq_true rfl, Nat.le_of_ble_eq_true rfl⟩ ⟨Nat.le_of_ble_eq_true rfl, Nat.le_of_ble_eq_true rfl⟩ hlt h (fun I18 J19 h => ?_)
    exact am_vret dB_openLastPage_66 rfl (Nat.le_of_ble_eq_true rfl) (Nat.le_of_ble_eq_true rfl) ⟨_, _, rfl, rfl, h⟩
  · replace h := h.2 hc8
    refine am_aload_n 1 dB_openLastPage_30 rfl rfl ?_
    refine am_aload_n 2 dB_openLastPage_31 rfl rfl ?_
    refine am_iload_n 0 dB_openLastPage_32 rfl rfl ?_
    refine kV_B_load he1 dB_openLastPage_33 (am_tw kw_511 rfl) (Nat.le_of_ble_eq_true rfl) ⟨Nat.le_of_ble_eq_true rfl, Nat.le_of_ble_eq_true rfl⟩ ⟨Nat.le_of_ble_eq_true rfl, Nat.le_of_ble_eq_true rfl⟩ ⟨Nat.le_of_ble_eq_true rfl, Nat.le_of_ble_eq_true rfl⟩ hlt h (fun I21 J22 h => ?_)
    exact am_vret dB_openLastPage_36 rfl (Nat.le_of_ble_eq_true rfl) (Nat.le_of_ble_eq_true rfl) ⟨_, _, rfl, rfl, h⟩
section
variable {l : Launch} {D : va_G} {aC : Nat → ClassId} {ad : Nat → Nat} {own : String} {cc : ByteArray} {nL : Nat} {ret : Option FieldType} {ini : Bool} {tb : List (Nat × Nat × Nat × Nat)} {G : State → (Nat → Prop) → Prop} {rm : Room} {mc ms k n pc idx : Nat} {L : List (Nat × Value)} {st rest : List Value} {I : am_MI} {J : am_MJ} {Q : Option Value → va_W → Prop} {X : String → va_W → Prop}
theorem kV_B_openLastPage {e1 : Nat} {K : am_MI → am_MJ → Prop} {X1 : String → am_MI → am_MJ → Prop} (he1 : e1 < 8) (hd : decode cc pc = .ok (.invokevirtual idx, 3)) (hlink : Cond.methodLink own idx yB_openLastPage ∈ am_TW) (hcat : (rest.map fun v => v.category).sum ≤ 8) (hR : 12 + 1 ≤ rm.frames ∧ 8 + (4 + 11) + 38 * 12 ≤ rm.locals) (hk : k + 1 ≤ rm.cells ∧ n + 6 ≤ rm.slots) (hm : k ≤ mc ∧ n ≤ ms) (hlt : l.stackTraces = false) (h : w_B_openLastPage e1 I J K X1) (kk : ∀ (I1 : am_MI) (J1 : am_MJ), K I1 J1 → am l D aC own cc nL ret ini [] G rm mc ms k n (pc + 3) L rest (am_w ad aC I1 J1) Q (am_lx ad aC X1)) : am l D aC own cc nL ret ini [] G rm mc ms k n pc L (.ref (ad (6 + e1)) :: .ref (ad 0) :: rest) (am_w ad aC I J) Q (am_lx ad aC X1) := by
  refine am_callV 0 0 (As := [.ref (ad (6 + e1))]) (N9 := 1) (t_B_openLastPage hlt he1 h) hd rfl (am_w_at ad aC I J (by omega)) rfl hlink (am_tw kw_508 rfl) (am_tw kw_507 rfl) ks_38 (am_tw kw_1 rfl) (by decide +kernel) rfl hcat ⟨rfl, rfl⟩ hR hk (fun E ws1 hx => am_out (fun x hx => nomatch hx) (Nat.add_le_add_right hm.1 1) (Nat.add_le_add_right hm.2 6) hx) ?_
  intro v ws1 hq
  obtain ⟨I1, J1, rfl, rfl, hq⟩ := hq
  exact kk I1 J1 hq
end

def w_B_sync (I : am_MI) (J : am_MJ) (Q : Int32 → am_MI → am_MJ → Prop) (X : String → am_MI → am_MJ → Prop) : Prop :=
  w_B_needMounted I J (fun (I1 : am_MI) (J2 : am_MJ) => w_B_writeAll I1 J2 (fun (r6 : Int32) (I4 : am_MI) (J5 : am_MJ) => Q r6 I4 J5) X) X
set_option maxRecDepth 20000 in
theorem t_B_sync {l : Launch} {D : va_G} {aC : Nat → ClassId} {ad : Nat → Nat} (hlt : l.stackTraces = false) {I : am_MI} {J : am_MJ} {Q} {X} (h : w_B_sync I J Q X) : am_c l D aC yB_sync (.code yB_sync cB_sync 1 (some .int)) (am_rm 12) 0 0 [.ref (ad 0)] (am_w ad aC I J) (am_li ad aC Q) (am_lx ad aC X) := by
  unfold w_B_sync at h
  refine am_of (ini := false) hlt (by decide +kernel) (Nat.le_of_ble_eq_true rfl) (fun h => nomatch h) ?_
  show am l D aC "BubbleBox" cB_sync 1 (some .int) false [] am_G0 (am_rm 12) 0 0 0 0 0 [(0, .ref (ad 0))] [] (am_w ad aC I J) (am_li ad aC Q) (am_lx ad aC X)
  refine am_aload_n 0 dB_sync_0 rfl rfl ?_
  refine kV_B_needMounted dB_sync_1 (am_tw kw_423 rfl) (Nat.le_of_ble_eq_true rfl) ⟨Nat.le_of_ble_eq_true rfl, Nat.le_of_ble_eq_true rfl⟩ ⟨Nat.le_of_ble_eq_true rfl, Nat.le_of_ble_eq_true rfl⟩ ⟨Nat.le_of_ble_eq_true rfl, Nat.le_of_ble_eq_true rfl⟩ hlt h (fun I1 J2 h => ?_)
  refine am_aload_n 0 dB_sync_4 rfl rfl ?_
  refine kV_B_writeAll dB_sync_5 (am_tw kw_385 rfl) (Nat.le_of_ble_eq_true rfl) ⟨Nat.le_of_ble_eq_true rfl, Nat.le_of_ble_eq_true rfl⟩ ⟨Nat.le_of_ble_eq_true rfl, Nat.le_of_ble_eq_true rfl⟩ ⟨Nat.le_of_ble_eq_true rfl, Nat.le_of_ble_eq_true rfl⟩ hlt h (fun r6 I4 J5 h => ?_)
  exact am_iret dB_sync_8 rfl (Nat.le_of_ble_eq_true rfl) (Nat.le_of_ble_eq_true rfl) ⟨_, _, _, rfl, rfl, h⟩
section
variable {l : Launch} {D : va_G} {aC : Nat → ClassId} {ad : Nat → Nat} {own : String} {cc : ByteArray} {nL : Nat} {ret : Option FieldType} {ini : Bool} {tb : List (Nat × Nat × Nat × Nat)} {G : State → (Nat → Prop) → Prop} {rm : Room} {mc ms k n pc idx : Nat} {L : List (Nat × Value)} {st rest : List Value} {I : am_MI} {J : am_MJ} {Q : Option Value → va_W → Prop} {X : String → va_W → Prop}
theorem kX_B_sync {K : Int32 → am_MI → am_MJ → Prop} {X1 : String → am_MI → am_MJ → Prop} (hd : decode cc pc = .ok (.invokevirtual idx, 3)) (hlink : Cond.methodLink own idx yB_sync ∈ am_TW) (hcat : (rest.map fun v => v.category).sum ≤ 8) (hR : 12 + 1 ≤ rm.frames ∧ 8 + (1 + 11) + 38 * 12 ≤ rm.locals) (hk : k + 1 ≤ rm.cells ∧ n + 6 ≤ rm.slots) (hlt : l.stackTraces = false) (h : w_B_sync I J K X1) (kx : ∀ (E : String) (I1 : am_MI) (J1 : am_MJ), X1 E I1 J1 → am_t l D aC own cc nL ret ini tb G rm mc ms (k + 1) (n + 6) pc L E (am_w ad aC I1 J1) Q X) (kk : ∀ (r : Int32) (I1 : am_MI) (J1 : am_MJ), K r I1 J1 → am l D aC own cc nL ret ini tb G rm mc ms k n (pc + 3) L (.int r :: rest) (am_w ad aC I1 J1) Q X) : am l D aC own cc nL ret ini tb G rm mc ms k n pc L (.ref (ad 0) :: rest) (am_w ad aC I J) Q X := by
  refine am_callV 0 0 (As := []) (N9 := 0) (t_B_sync hlt h) hd rfl (am_w_at ad aC I J (by omega)) rfl hlink (am_tw kw_584 rfl) (am_tw kw_582 rfl) (am_tw kw_583 rfl) (am_tw kw_1 rfl) (by decide +kernel) rfl hcat ⟨rfl, rfl⟩ hR hk (fun E ws1 hx => ?_) ?_
  · obtain ⟨I1, J1, rfl, hx⟩ := hx
    exact kx E I1 J1 hx
  · intro v ws1 hq
    obtain ⟨r, I1, J1, rfl, rfl, hq⟩ := hq
    exact kk r I1 J1 hq
end
def w_B_append_33 (x2 : Int32) (z3 : Nat) (x4 : Int32) (I : am_MI) (J : am_MJ) (Q : Int32 → am_MI → am_MJ → Prop) (X : String → am_MI → am_MJ → Prop) : Prop :=
  w_E_putIntoWindow z3 x4 x2 I J (fun (I9 : am_MI) (J10 : am_MJ) => Q ((am_ui I9 (6 + z3) 2 ((I9 (6 + z3) 2) + (1 : Int32))) (6 + z3) 2) (am_ui I9 (6 + z3) 2 ((I9 (6 + z3) 2) + (1 : Int32))) J10) (fun _ _ _ => False)
set_option maxRecDepth 20000 in
theorem t_B_append_33 {l : Launch} {D : va_G} {aC : Nat → ClassId} {ad : Nat → Nat} (hlt : l.stackTraces = false) {x2 : Int32} {z3 : Nat} {x4 : Int32} (hz3 : z3 < 8) {I : am_MI} {J : am_MJ} {Q} {X} (h : w_B_append_33 x2 z3 x4 I J Q X) : am l D aC "BubbleBox" cB_append 5 (some .int) false [] am_G0 (am_rm 13) 0 0 0 0 33 [(2, .int x2), (3, .ref (ad (6 + z3))), (4, .int x4)] [] (am_w ad aC I J) (am_li ad aC Q) (am_lx ad aC X) := by
  unfold w_B_append_33 at h
  refine am_aload_n 1 dB_append_33 rfl rfl ?_
  refine am_iload 2 dB_append_34 rfl ?_
  refine am_iload_n 0 dB_append_36 rfl rfl ?_
  refine kVN_E_putIntoWindow hz3 dB_append_37 (am_tn kw_519 rfl) (Nat.le_of_ble_eq_true rfl) ⟨Nat.le_of_ble_eq_true rfl, Nat.le_of_ble_eq_true rfl⟩ ⟨Nat.le_of_ble_eq_true rfl, Nat.le_of_ble_eq_true rfl⟩ ⟨Nat.le_of_ble_eq_true rfl, Nat.le_of_ble_eq_true rfl⟩ hlt h (fun I9 J10 h => ?_)
  refine am_aload_n 1 dB_append_40 rfl rfl ?_
  refine am_dup dB_append_41 rfl ?_
  refine gn_E_bytes hz3 dB_append_42 (am_tn kw_71 rfl) ?_
  refine am_iconst (v := 1) dB_append_45 (by decide) ?_
  refine am_iadd dB_append_46 ?_
  refine pn_E_bytes hz3 dB_append_47 (am_tn kw_71 rfl) ?_
  refine am_aload_n 1 dB_append_50 rfl rfl ?_
  refine gn_E_bytes hz3 dB_append_51 (am_tn kw_71 rfl) ?_
  exact am_iret dB_append_54 rfl (Nat.le_of_ble_eq_true rfl) (Nat.le_of_ble_eq_true rfl) ⟨_, _, _, rfl, rfl, h⟩

def w_B_append (a0 : Int32) (a1 : Int32) (I : am_MI) (J : am_MJ) (Q : Int32 → am_MI → am_MJ → Prop) (X : String → am_MI → am_MJ → Prop) : Prop :=
  w_B_entryOf a0 I J (fun (r3 : Nat) (I1 : am_MI) (J2 : am_MJ) => (¬ ((I1 (6 + r3) 2) - (I1 (6 + r3) 2) / (8 : Int32) * (8 : Int32)) = 0 → (w_B_openLastPage r3 I1 J2 (fun (I6 : am_MI) (J7 : am_MJ) => w_B_append_33 a1 r3 ((I1 (6 + r3) 2) - (I1 (6 + r3) 2) / (8 : Int32) * (8 : Int32)) I6 J7 Q X) X)) ∧ (((I1 (6 + r3) 2) - (I1 (6 + r3) 2) / (8 : Int32) * (8 : Int32)) = 0 → (w_B_openNewPage r3 I1 J2 (fun (I12 : am_MI) (J13 : am_MJ) => w_B_append_33 a1 r3 ((I1 (6 + r3) 2) - (I1 (6 + r3) 2) / (8 : Int32) * (8 : Int32)) I12 J13 Q X) X))) X
set_option maxRecDepth 20000 in
theorem t_B_append {l : Launch} {D : va_G} {aC : Nat → ClassId} {ad : Nat → Nat} (hlt : l.stackTraces = false) {a0 : Int32} {a1 : Int32} {I : am_MI} {J : am_MJ} {Q} {X} (h : w_B_append a0 a1 I J Q X) : am_c l D aC yB_append (.code yB_append cB_append 5 (some .int)) (am_rm 13) 0 0 [.ref (ad 0), .int a0, .int a1] (am_w ad aC I J) (am_li ad aC Q) (am_lx ad aC X) := by
  unfold w_B_append at h
  refine am_of (ini := false) hlt (by decide +kernel) (Nat.le_of_ble_eq_true rfl) (fun h => nomatch h) ?_
  show am l D aC "BubbleBox" cB_append 5 (some .int) false [] am_G0 (am_rm 13) 0 0 0 0 0 [(0, .ref (ad 0)), (1, .int a0), (2, .int a1)] [] (am_w ad aC I J) (am_li ad aC Q) (am_lx ad aC X)
  refine am_aload_n 0 dB_append_0 rfl rfl ?_
  refine am_iload_n 1 dB_append_1 rfl rfl ?_
  refine kV_B_entryOf dB_append_2 (am_tw kw_463 rfl) (Nat.le_of_ble_eq_true rfl) ⟨Nat.le_of_ble_eq_true rfl, Nat.le_of_ble_eq_true rfl⟩ ⟨Nat.le_of_ble_eq_true rfl, Nat.le_of_ble_eq_true rfl⟩ ⟨Nat.le_of_ble_eq_true rfl, Nat.le_of_ble_eq_true rfl⟩ hlt h (fun r3 I1 J2 he4 h => ?_)
  refine am_astore_n (L2 := [(3, .ref (ad (6 + r3))), (0, .ref (ad 0)), (1, .int a0), (2, .int a1)]) dB_append_5 rfl (Nat.le_of_ble_eq_true rfl) rfl ?_
  refine am_aload_n 0 dB_append_6 rfl rfl ?_
  refine gn_E_bytes he4 dB_append_7 (am_tn kw_71 rfl) ?_
  refine am_bipush (v := 8) dB_append_10 (by decide) ?_
  refine am_irem dB_append_12 (by decide) ?_
  refine am_istore (L2 := [(4, .int ((I1 (6 + r3) 2) - (I1 (6 + r3) 2) / (8 : Int32) * (8 : Int32))), (3, .ref (ad (6 + r3))), (0, .ref (ad 0)), (1, .int a0), (2, .int a1)]) dB_append_13 (Nat.le_of_ble_eq_true rfl) rfl ?_
  refine am_iload 0 dB_append_15 rfl ?_
  refine am_if_ne 28 dB_append_17 (by decide) (fun hc5 => ?_) (fun hc5 => ?_)
  · replace h := h.1 hc5
    refine am_aload_n 2 dB_append_28 rfl rfl ?_
    refine am_aload_n 1 dB_append_29 rfl rfl ?_
    refine kV_B_openLastPage he4 dB_append_30 (am_tw kw_505 rfl) (Nat.le_of_ble_eq_true rfl) ⟨Nat.le_of_ble_eq_true rfl, Nat.le_of_ble_eq_true rfl⟩ ⟨Nat.le_of_ble_eq_true rfl, Nat.le_of_ble_eq_true rfl⟩ ⟨Nat.le_of_ble_eq_true rfl, Nat.le_of_ble_eq_true rfl⟩ hlt h (fun I6 J7 h => ?_)
    exact am_sub [4, 1, 0] rfl (t_B_append_33 hlt he4 h)
  · replace h := h.2 hc5
    refine am_aload_n 2 dB_append_20 rfl rfl ?_
    refine am_aload_n 1 dB_append_21 rfl rfl ?_
    refine kV_B_openNewPage he4 dB_append_22 (am_tw kw_475 rfl) (Nat.le_of_ble_eq_true rfl) ⟨Nat.le_of_ble_eq_true rfl, Nat.le_of_ble_eq_true rfl⟩ ⟨Nat.le_of_ble_eq_true rfl, Nat.le_of_ble_eq_true rfl⟩ ⟨Nat.le_of_ble_eq_true rfl, Nat.le_of_ble_eq_true rfl⟩ hlt h (fun I12 J13 h => ?_)
    refine am_goto 33 dB_append_25 (by decide) ?_
    exact am_sub [4, 1, 0] rfl (t_B_append_33 hlt he4 h)
section
variable {l : Launch} {D : va_G} {aC : Nat → ClassId} {ad : Nat → Nat} {own : String} {cc : ByteArray} {nL : Nat} {ret : Option FieldType} {ini : Bool} {tb : List (Nat × Nat × Nat × Nat)} {G : State → (Nat → Prop) → Prop} {rm : Room} {mc ms k n pc idx : Nat} {L : List (Nat × Value)} {st rest : List Value} {I : am_MI} {J : am_MJ} {Q : Option Value → va_W → Prop} {X : String → va_W → Prop}
theorem kX_B_append {a0 : Int32} {a1 : Int32} {K : Int32 → am_MI → am_MJ → Prop} {X1 : String → am_MI → am_MJ → Prop} (hd : decode cc pc = .ok (.invokevirtual idx, 3)) (hlink : Cond.methodLink own idx yB_append ∈ am_TW) (hcat : (rest.map fun v => v.category).sum ≤ 8) (hR : 13 + 1 ≤ rm.frames ∧ 8 + (5 + 11) + 38 * 13 ≤ rm.locals) (hk : k + 1 ≤ rm.cells ∧ n + 6 ≤ rm.slots) (hlt : l.stackTraces = false) (h : w_B_append a0 a1 I J K X1) (kx : ∀ (E : String) (I1 : am_MI) (J1 : am_MJ), X1 E I1 J1 → am_t l D aC own cc nL ret ini tb G rm mc ms (k + 1) (n + 6) pc L E (am_w ad aC I1 J1) Q X) (kk : ∀ (r : Int32) (I1 : am_MI) (J1 : am_MJ), K r I1 J1 → am l D aC own cc nL ret ini tb G rm mc ms k n (pc + 3) L (.int r :: rest) (am_w ad aC I1 J1) Q X) : am l D aC own cc nL ret ini tb G rm mc ms k n pc L (.int a1 :: .int a0 :: .ref (ad 0) :: rest) (am_w ad aC I J) Q X := by
  refine am_callV 0 0 (As := [.int a0, .int a1]) (N9 := 2) (t_B_append hlt h) hd rfl (am_w_at ad aC I J (by omega)) rfl hlink (am_tw kw_474 rfl) (am_tw kw_472 rfl) (am_tw kw_473 rfl) (am_tw kw_1 rfl) (by decide +kernel) rfl hcat ⟨rfl, rfl⟩ hR hk (fun E ws1 hx => ?_) ?_
  · obtain ⟨I1, J1, rfl, hx⟩ := hx
    exact kx E I1 J1 hx
  · intro v ws1 hq
    obtain ⟨r, I1, J1, rfl, rfl, hq⟩ := hq
    exact kk r I1 J1 hq
end
