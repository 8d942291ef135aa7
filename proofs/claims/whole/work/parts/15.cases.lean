def w_case0 (L0 : Nat) (xs : Nat → Int32) (x4 : Int32) (I : am_MI) (J : am_MJ) (K : am_MI → am_MJ → Prop) : Prop :=
  vp_in (x4 + (1 : Int32)) L0 ∧ (vp_in (x4 + (2 : Int32)) L0 ∧ (w_L_stuck (xs (x4 + (1 : Int32)).toNatClampNeg) (xs (x4 + (2 : Int32)).toNatClampNeg) I J (fun (r5 : Int32) (I3 : am_MI) (J4 : am_MJ) => vp_in (x4 + (1 : Int32)) L0 ∧ (vp_in (x4 + (2 : Int32)) L0 ∧ (w_M_stuck (xs (x4 + (1 : Int32)).toNatClampNeg) (xs (x4 + (2 : Int32)).toNatClampNeg) I3 J4 (fun (I8 : am_MI) (J9 : am_MJ) => w_M_thrown I8 J9 (fun (r13 : Int32) (I11 : am_MI) (J12 : am_MJ) => (r13 = r5 → (K I11 J12)) ∧ (¬ (r13 = r5) → (False))) (fun _ _ _ => False)) (fun _ _ _ => False)))) (fun _ _ _ => False)))
set_option maxRecDepth 20000 in
theorem t_case0 {l : Launch} {D : va_G} {aC : Nat → ClassId} {ad : Nat → Nat} (hlt : l.stackTraces = false) {b L0 k n : Nat} (hkn : k + 100 ≤ 601024 ∧ n + 1000 ≤ 7293034) {xs : Nat → Int32} {x4 : Int32} {I : am_MI} {J : am_MJ} {K : am_MI → am_MJ → Prop} (kk : ∀ (I : am_MI) (J : am_MJ), K I J → am l D aC "BubbleBoxLaw" cL_law 8 (some .boolean) false [] (am_GS b L0 xs) room_1 601024 7293034 (k + 1) (n + 6) 1101 [(0, .ref b), (1, .ref (ad 0)), (2, .ref (ad 28)), (3, .ref (ad 45)), (4, .int x4)] [] (am_w ad aC I J) (fun v _ => v = some (.int 1)) (am_lx ad aC (fun _ _ _ => False))) (h : w_case0 L0 xs x4 I J K) : am l D aC "BubbleBoxLaw" cL_law 8 (some .boolean) false [] (am_GS b L0 xs) room_1 601024 7293034 k n 128 [(0, .ref b), (1, .ref (ad 0)), (2, .ref (ad 28)), (3, .ref (ad 45)), (4, .int x4)] [] (am_w ad aC I J) (fun v _ => v = some (.int 1)) (am_lx ad aC (fun _ _ _ => False)) := by
  unfold w_case0 at h
  have hk1 := hkn.1
  have hn1 := hkn.2
  refine am_aload_n 1 dL_law_128 rfl rfl ?_
  refine am_aload_n 0 dL_law_129 rfl rfl ?_
  refine am_iload 4 dL_law_130 rfl ?_
  refine am_iconst (v := 1) dL_law_132 (by decide) ?_
  refine am_iadd dL_law_133 ?_
  obtain ⟨hi1, h⟩ := h
  refine am_sld hi1 dL_law_134 ?_
  refine am_aload_n 0 dL_law_135 rfl rfl ?_
  refine am_iload 4 dL_law_136 rfl ?_
  refine am_iconst (v := 2) dL_law_138 (by decide) ?_
  refine am_iadd dL_law_139 ?_
  obtain ⟨hi2, h⟩ := h
  refine am_sld hi2 dL_law_140 ?_
  refine kH_L_stuck dL_law_141 (am_tw kw_341 rfl) (Nat.le_of_ble_eq_true rfl) ⟨Nat.le_of_ble_eq_true rfl, Nat.le_of_ble_eq_true rfl⟩ ⟨by show k + 2 ≤ 601024; omega, by show n + 12 ≤ 7293034; omega⟩ ⟨by omega, by omega⟩ hlt h (fun r5 I3 J4 h => ?_)
  refine am_istore (L2 := [(5, .int r5), (0, .ref b), (1, .ref (ad 0)), (2, .ref (ad 28)), (3, .ref (ad 45)), (4, .int x4)]) dL_law_144 (Nat.le_of_ble_eq_true rfl) rfl ?_
  refine am_aload_n 3 dL_law_146 rfl rfl ?_
  refine am_aload_n 1 dL_law_147 rfl rfl ?_
  refine am_iload 5 dL_law_148 rfl ?_
  refine am_iconst (v := 1) dL_law_150 (by decide) ?_
  refine am_iadd dL_law_151 ?_
  obtain ⟨hi6, h⟩ := h
  refine am_sld hi6 dL_law_152 ?_
  refine am_aload_n 1 dL_law_153 rfl rfl ?_
  refine am_iload 5 dL_law_154 rfl ?_
  refine am_iconst (v := 2) dL_law_156 (by decide) ?_
  refine am_iadd dL_law_157 ?_
  obtain ⟨hi7, h⟩ := h
  refine am_sld hi7 dL_law_158 ?_
  refine kV_M_stuck dL_law_159 (am_tw kw_745 rfl) (Nat.le_of_ble_eq_true rfl) ⟨Nat.le_of_ble_eq_true rfl, Nat.le_of_ble_eq_true rfl⟩ ⟨by show (k + 1) + 1 ≤ 601024; omega, by show (n + 6) + 6 ≤ 7293034; omega⟩ ⟨by omega, by omega⟩ hlt h (fun I8 J9 h => ?_)
  refine am_aload_n 3 dL_law_162 rfl rfl ?_
  refine kV_M_thrown dL_law_163 (am_tw kw_741 rfl) (Nat.le_of_ble_eq_true rfl) ⟨Nat.le_of_ble_eq_true rfl, Nat.le_of_ble_eq_true rfl⟩ ⟨by show (k + 1) + 1 ≤ 601024; omega, by show (n + 6) + 6 ≤ 7293034; omega⟩ ⟨by omega, by omega⟩ hlt h (fun r13 I11 J12 h => ?_)
  refine am_iload 0 dL_law_166 rfl ?_
  refine am_icmp_eq 173 dL_law_168 (by decide) (fun hc14 => ?_) (fun hc14 => ?_)
  · replace h := h.1 hc14
    refine am_goto 1101 dL_law_173 (by decide) ?_
    exact am_sub [1, 2, 3, 4, 5] rfl (am_widen (by omega) (by omega) (kk _ _ h))
  · replace h := h.2 hc14
    refine am_iconst (v := 0) dL_law_171 (by decide) ?_
    exact h.elim
def w_case1 (L0 : Nat) (xs : Nat → Int32) (x4 : Int32) (I : am_MI) (J : am_MJ) (K : am_MI → am_MJ → Prop) : Prop :=
  vp_in (x4 + (1 : Int32)) L0 ∧ (w_B_power (xs (x4 + (1 : Int32)).toNatClampNeg) I J (fun (I2 : am_MI) (J3 : am_MJ) => vp_in (x4 + (1 : Int32)) L0 ∧ (w_M_power (xs (x4 + (1 : Int32)).toNatClampNeg) I2 J3 (fun (I6 : am_MI) (J7 : am_MJ) => K I6 J7) (fun _ _ _ => False))) (fun _ _ _ => False))
set_option maxRecDepth 20000 in
theorem t_case1 {l : Launch} {D : va_G} {aC : Nat → ClassId} {ad : Nat → Nat} (hlt : l.stackTraces = false) {b L0 k n : Nat} (hkn : k + 100 ≤ 601024 ∧ n + 1000 ≤ 7293034) {xs : Nat → Int32} {x4 : Int32} {I : am_MI} {J : am_MJ} {K : am_MI → am_MJ → Prop} (kk : ∀ (I : am_MI) (J : am_MJ), K I J → am l D aC "BubbleBoxLaw" cL_law 8 (some .boolean) false [] (am_GS b L0 xs) room_1 601024 7293034 (k + 1) (n + 6) 1101 [(0, .ref b), (1, .ref (ad 0)), (2, .ref (ad 28)), (3, .ref (ad 45)), (4, .int x4)] [] (am_w ad aC I J) (fun v _ => v = some (.int 1)) (am_lx ad aC (fun _ _ _ => False))) (h : w_case1 L0 xs x4 I J K) : am l D aC "BubbleBoxLaw" cL_law 8 (some .boolean) false [] (am_GS b L0 xs) room_1 601024 7293034 k n 176 [(0, .ref b), (1, .ref (ad 0)), (2, .ref (ad 28)), (3, .ref (ad 45)), (4, .int x4)] [] (am_w ad aC I J) (fun v _ => v = some (.int 1)) (am_lx ad aC (fun _ _ _ => False)) := by
  unfold w_case1 at h
  have hk1 := hkn.1
  have hn1 := hkn.2
  refine am_aload_n 1 dL_law_176 rfl rfl ?_
  refine am_aload_n 0 dL_law_177 rfl rfl ?_
  refine am_iload 4 dL_law_178 rfl ?_
  refine am_iconst (v := 1) dL_law_180 (by decide) ?_
  refine am_iadd dL_law_181 ?_
  obtain ⟨hi1, h⟩ := h
  refine am_sld hi1 dL_law_182 ?_
  refine kV_B_power dL_law_183 (am_tw kw_179 rfl) (Nat.le_of_ble_eq_true rfl) ⟨Nat.le_of_ble_eq_true rfl, Nat.le_of_ble_eq_true rfl⟩ ⟨by show k + 1 ≤ 601024; omega, by show n + 6 ≤ 7293034; omega⟩ ⟨by omega, by omega⟩ hlt h (fun I2 J3 h => ?_)
  refine am_aload_n 2 dL_law_186 rfl rfl ?_
  refine am_aload_n 0 dL_law_187 rfl rfl ?_
  refine am_iload 4 dL_law_188 rfl ?_
  refine am_iconst (v := 1) dL_law_190 (by decide) ?_
  refine am_iadd dL_law_191 ?_
  obtain ⟨hi5, h⟩ := h
  refine am_sld hi5 dL_law_192 ?_
  refine kV_M_power dL_law_193 (am_tw kw_749 rfl) (Nat.le_of_ble_eq_true rfl) ⟨Nat.le_of_ble_eq_true rfl, Nat.le_of_ble_eq_true rfl⟩ ⟨by show k + 1 ≤ 601024; omega, by show n + 6 ≤ 7293034; omega⟩ ⟨by omega, by omega⟩ hlt h (fun I6 J7 h => ?_)
  refine am_goto 1101 dL_law_196 (by decide) ?_
  exact am_sub [0, 1, 2, 3, 4] rfl (am_widen (by omega) (by omega) (kk _ _ h))
def w_case2 (L0 : Nat) (xs : Nat → Int32) (x4 : Int32) (I : am_MI) (J : am_MJ) (K : am_MI → am_MJ → Prop) : Prop :=
  w_B_state I J (fun (r3 : Int32) (I1 : am_MI) (J2 : am_MJ) => w_M_state I1 J2 (fun (r6 : Int32) (I4 : am_MI) (J5 : am_MJ) => (r3 = r6 → (K I4 J5)) ∧ (¬ (r3 = r6) → (False))) (fun _ _ _ => False)) (fun _ _ _ => False)
set_option maxRecDepth 20000 in
theorem t_case2 {l : Launch} {D : va_G} {aC : Nat → ClassId} {ad : Nat → Nat} (hlt : l.stackTraces = false) {b L0 k n : Nat} (hkn : k + 100 ≤ 601024 ∧ n + 1000 ≤ 7293034) {xs : Nat → Int32} {x4 : Int32} {I : am_MI} {J : am_MJ} {K : am_MI → am_MJ → Prop} (kk : ∀ (I : am_MI) (J : am_MJ), K I J → am l D aC "BubbleBoxLaw" cL_law 8 (some .boolean) false [] (am_GS b L0 xs) room_1 601024 7293034 (k + 1) (n + 6) 1101 [(0, .ref b), (1, .ref (ad 0)), (2, .ref (ad 28)), (3, .ref (ad 45)), (4, .int x4)] [] (am_w ad aC I J) (fun v _ => v = some (.int 1)) (am_lx ad aC (fun _ _ _ => False))) (h : w_case2 L0 xs x4 I J K) : am l D aC "BubbleBoxLaw" cL_law 8 (some .boolean) false [] (am_GS b L0 xs) room_1 601024 7293034 k n 199 [(0, .ref b), (1, .ref (ad 0)), (2, .ref (ad 28)), (3, .ref (ad 45)), (4, .int x4)] [] (am_w ad aC I J) (fun v _ => v = some (.int 1)) (am_lx ad aC (fun _ _ _ => False)) := by
  unfold w_case2 at h
  have hk1 := hkn.1
  have hn1 := hkn.2
  refine am_aload_n 1 dL_law_199 rfl rfl ?_
  refine kV_B_state dL_law_200 (am_tw kw_183 rfl) (Nat.le_of_ble_eq_true rfl) ⟨Nat.le_of_ble_eq_true rfl, Nat.le_of_ble_eq_true rfl⟩ ⟨by show k + 1 ≤ 601024; omega, by show n + 6 ≤ 7293034; omega⟩ ⟨by omega, by omega⟩ hlt h (fun r3 I1 J2 h => ?_)
  refine am_aload_n 2 dL_law_203 rfl rfl ?_
  refine kV_M_state dL_law_204 (am_tw kw_753 rfl) (Nat.le_of_ble_eq_true rfl) ⟨Nat.le_of_ble_eq_true rfl, Nat.le_of_ble_eq_true rfl⟩ ⟨by show k + 1 ≤ 601024; omega, by show n + 6 ≤ 7293034; omega⟩ ⟨by omega, by omega⟩ hlt h (fun r6 I4 J5 h => ?_)
  refine am_icmp_eq 1101 dL_law_207 (by decide) (fun hc7 => ?_) (fun hc7 => ?_)
  · replace h := h.1 hc7
    exact am_sub [0, 1, 2, 3, 4] rfl (am_widen (by omega) (by omega) (kk _ _ h))
  · replace h := h.2 hc7
    refine am_iconst (v := 0) dL_law_210 (by decide) ?_
    exact h.elim
def w_case3 (L0 : Nat) (xs : Nat → Int32) (x4 : Int32) (I : am_MI) (J : am_MJ) (K : am_MI → am_MJ → Prop) : Prop :=
  w_B_steps I J (fun (r3 : Int64) (I1 : am_MI) (J2 : am_MJ) => w_M_steps I1 J2 (fun (r6 : Int64) (I4 : am_MI) (J5 : am_MJ) => ((lg_cmp r3 r6) = 0 → (K I4 J5)) ∧ (¬ ((lg_cmp r3 r6) = 0) → (False))) (fun _ _ _ => False)) (fun _ _ _ => False)
set_option maxRecDepth 20000 in
theorem t_case3 {l : Launch} {D : va_G} {aC : Nat → ClassId} {ad : Nat → Nat} (hlt : l.stackTraces = false) {b L0 k n : Nat} (hkn : k + 100 ≤ 601024 ∧ n + 1000 ≤ 7293034) {xs : Nat → Int32} {x4 : Int32} {I : am_MI} {J : am_MJ} {K : am_MI → am_MJ → Prop} (kk : ∀ (I : am_MI) (J : am_MJ), K I J → am l D aC "BubbleBoxLaw" cL_law 8 (some .boolean) false [] (am_GS b L0 xs) room_1 601024 7293034 (k + 1) (n + 6) 1101 [(0, .ref b), (1, .ref (ad 0)), (2, .ref (ad 28)), (3, .ref (ad 45)), (4, .int x4)] [] (am_w ad aC I J) (fun v _ => v = some (.int 1)) (am_lx ad aC (fun _ _ _ => False))) (h : w_case3 L0 xs x4 I J K) : am l D aC "BubbleBoxLaw" cL_law 8 (some .boolean) false [] (am_GS b L0 xs) room_1 601024 7293034 k n 212 [(0, .ref b), (1, .ref (ad 0)), (2, .ref (ad 28)), (3, .ref (ad 45)), (4, .int x4)] [] (am_w ad aC I J) (fun v _ => v = some (.int 1)) (am_lx ad aC (fun _ _ _ => False)) := by
  unfold w_case3 at h
  have hk1 := hkn.1
  have hn1 := hkn.2
  refine am_aload_n 1 dL_law_212 rfl rfl ?_
  refine kV_B_steps dL_law_213 (am_tw kw_187 rfl) (Nat.le_of_ble_eq_true rfl) ⟨Nat.le_of_ble_eq_true rfl, Nat.le_of_ble_eq_true rfl⟩ ⟨by show k + 1 ≤ 601024; omega, by show n + 6 ≤ 7293034; omega⟩ ⟨by omega, by omega⟩ hlt h (fun r3 I1 J2 h => ?_)
  refine am_aload_n 2 dL_law_216 rfl rfl ?_
  refine kV_M_steps dL_law_217 (am_tw kw_757 rfl) (Nat.le_of_ble_eq_true rfl) ⟨Nat.le_of_ble_eq_true rfl, Nat.le_of_ble_eq_true rfl⟩ ⟨by show k + 1 ≤ 601024; omega, by show n + 6 ≤ 7293034; omega⟩ ⟨by omega, by omega⟩ hlt h (fun r6 I4 J5 h => ?_)
  refine am_lcmp dL_law_220 ?_
  refine am_if_eq 1101 dL_law_221 (by decide) (fun hc7 => ?_) (fun hc7 => ?_)
  · replace h := h.1 hc7
    exact am_sub [0, 1, 2, 3, 4] rfl (am_widen (by omega) (by omega) (kk _ _ h))
  · replace h := h.2 hc7
    refine am_iconst (v := 0) dL_law_224 (by decide) ?_
    exact h.elim
def w_case4 (L0 : Nat) (xs : Nat → Int32) (x4 : Int32) (I : am_MI) (J : am_MJ) (K : am_MI → am_MJ → Prop) : Prop :=
  w_L_format I J (fun (r3 : Int32) (I1 : am_MI) (J2 : am_MJ) => w_M_format I1 J2 (fun (r6 : Int32) (I4 : am_MI) (J5 : am_MJ) => w_M_thrown I4 J5 (fun (r9 : Int32) (I7 : am_MI) (J8 : am_MJ) => (r9 = r3 → ((¬ r3 = 0 → (K I7 J8)) ∧ (r3 = 0 → (vp_in (0 : Int32) 1 ∧ ((r6 = 0 → (((lg_cmp (J8 45 (0 : Int32).toNatClampNeg) (0 : Int64)) = 0 → (K I7 J8)) ∧ (¬ ((lg_cmp (J8 45 (0 : Int32).toNatClampNeg) (0 : Int64)) = 0) → (False)))) ∧ (¬ (r6 = 0) → (((lg_cmp (J8 45 (0 : Int32).toNatClampNeg) (1 : Int64)) = 0 → (K I7 J8)) ∧ (¬ ((lg_cmp (J8 45 (0 : Int32).toNatClampNeg) (1 : Int64)) = 0) → (False))))))))) ∧ (¬ (r9 = r3) → (False))) (fun _ _ _ => False)) (fun _ _ _ => False)) (fun _ _ _ => False)
set_option maxRecDepth 20000 in
theorem t_case4 {l : Launch} {D : va_G} {aC : Nat → ClassId} {ad : Nat → Nat} (hlt : l.stackTraces = false) {b L0 k n : Nat} (hkn : k + 100 ≤ 601024 ∧ n + 1000 ≤ 7293034) {xs : Nat → Int32} {x4 : Int32} {I : am_MI} {J : am_MJ} {K : am_MI → am_MJ → Prop} (kk : ∀ (I : am_MI) (J : am_MJ), K I J → am l D aC "BubbleBoxLaw" cL_law 8 (some .boolean) false [] (am_GS b L0 xs) room_1 601024 7293034 (k + 1) (n + 6) 1101 [(0, .ref b), (1, .ref (ad 0)), (2, .ref (ad 28)), (3, .ref (ad 45)), (4, .int x4)] [] (am_w ad aC I J) (fun v _ => v = some (.int 1)) (am_lx ad aC (fun _ _ _ => False))) (h : w_case4 L0 xs x4 I J K) : am l D aC "BubbleBoxLaw" cL_law 8 (some .boolean) false [] (am_GS b L0 xs) room_1 601024 7293034 k n 226 [(0, .ref b), (1, .ref (ad 0)), (2, .ref (ad 28)), (3, .ref (ad 45)), (4, .int x4)] [] (am_w ad aC I J) (fun v _ => v = some (.int 1)) (am_lx ad aC (fun _ _ _ => False)) := by
  unfold w_case4 at h
  have hk1 := hkn.1
  have hn1 := hkn.2
  refine am_aload_n 1 dL_law_226 rfl rfl ?_
  refine am_aload_n 3 dL_law_227 rfl rfl ?_
  refine kH_L_format dL_law_228 (am_tw kw_368 rfl) (Nat.le_of_ble_eq_true rfl) ⟨Nat.le_of_ble_eq_true rfl, Nat.le_of_ble_eq_true rfl⟩ ⟨by show k + 2 ≤ 601024; omega, by show n + 12 ≤ 7293034; omega⟩ ⟨by omega, by omega⟩ hlt h (fun r3 I1 J2 h => ?_)
  refine am_istore (L2 := [(5, .int r3), (0, .ref b), (1, .ref (ad 0)), (2, .ref (ad 28)), (3, .ref (ad 45)), (4, .int x4)]) dL_law_231 (Nat.le_of_ble_eq_true rfl) rfl ?_
  refine am_aload_n 3 dL_law_233 rfl rfl ?_
  refine kV_M_format dL_law_234 (am_tw kw_761 rfl) (Nat.le_of_ble_eq_true rfl) ⟨Nat.le_of_ble_eq_true rfl, Nat.le_of_ble_eq_true rfl⟩ ⟨by show (k + 1) + 1 ≤ 601024; omega, by show (n + 6) + 6 ≤ 7293034; omega⟩ ⟨by omega, by omega⟩ hlt h (fun r6 I4 J5 h => ?_)
  refine am_istore (L2 := [(6, .int r6), (5, .int r3), (0, .ref b), (1, .ref (ad 0)), (2, .ref (ad 28)), (3, .ref (ad 45)), (4, .int x4)]) dL_law_237 (Nat.le_of_ble_eq_true rfl) rfl ?_
  refine am_aload_n 4 dL_law_239 rfl rfl ?_
  refine kV_M_thrown dL_law_240 (am_tw kw_741 rfl) (Nat.le_of_ble_eq_true rfl) ⟨Nat.le_of_ble_eq_true rfl, Nat.le_of_ble_eq_true rfl⟩ ⟨by show (k + 1) + 1 ≤ 601024; omega, by show (n + 6) + 6 ≤ 7293034; omega⟩ ⟨by omega, by omega⟩ hlt h (fun r9 I7 J8 h => ?_)
  refine am_iload 1 dL_law_243 rfl ?_
  refine am_icmp_eq 250 dL_law_245 (by decide) (fun hc10 => ?_) (fun hc10 => ?_)
  · replace h := h.1 hc10
    refine am_iload 1 dL_law_250 rfl ?_
    refine am_if_ne 274 dL_law_252 (by decide) (fun hc11 => ?_) (fun hc11 => ?_)
    · replace h := h.1 hc11
      refine am_goto 1101 dL_law_274 (by decide) ?_
      exact am_sub [2, 3, 4, 5, 6] rfl (am_widen (by omega) (by omega) (kk _ _ h))
    · replace h := h.2 hc11
      refine am_aload_n 5 dL_law_255 rfl rfl ?_
      refine am_iconst (v := 0) dL_law_256 (by decide) ?_
      obtain ⟨hi12, h⟩ := h
      refine ld_45 hi12 dL_law_257 ?_
      refine am_iload 0 dL_law_258 rfl ?_
      refine am_if_eq 267 dL_law_260 (by decide) (fun hc13 => ?_) (fun hc13 => ?_)
      · replace h := h.1 hc13
        refine am_lconst (v := 0) dL_law_267 (by decide) ?_
        refine am_lcmp dL_law_268 ?_
        refine am_if_eq 274 dL_law_269 (by decide) (fun hc14 => ?_) (fun hc14 => ?_)
        · replace h := h.1 hc14
          refine am_goto 1101 dL_law_274 (by decide) ?_
          exact am_sub [2, 3, 4, 5, 6] rfl (am_widen (by omega) (by omega) (kk _ _ h))
        · replace h := h.2 hc14
          refine am_iconst (v := 0) dL_law_272 (by decide) ?_
          exact h.elim
      · replace h := h.2 hc13
        refine am_lconst (v := 1) dL_law_263 (by decide) ?_
        refine am_goto 268 dL_law_264 (by decide) ?_
        refine am_lcmp dL_law_268 ?_
        refine am_if_eq 274 dL_law_269 (by decide) (fun hc15 => ?_) (fun hc15 => ?_)
        · replace h := h.1 hc15
          refine am_goto 1101 dL_law_274 (by decide) ?_
          exact am_sub [2, 3, 4, 5, 6] rfl (am_widen (by omega) (by omega) (kk _ _ h))
        · replace h := h.2 hc15
          refine am_iconst (v := 0) dL_law_272 (by decide) ?_
          exact h.elim
  · replace h := h.2 hc10
    refine am_iconst (v := 0) dL_law_248 (by decide) ?_
    exact h.elim
def w_case5 (L0 : Nat) (xs : Nat → Int32) (x4 : Int32) (I : am_MI) (J : am_MJ) (K : am_MI → am_MJ → Prop) : Prop :=
  w_B_mount I J (fun (r3 : Int32) (I1 : am_MI) (J2 : am_MJ) => w_M_mount I1 J2 (fun (r6 : Int32) (I4 : am_MI) (J5 : am_MJ) => (r3 = r6 → (K I4 J5)) ∧ (¬ (r3 = r6) → (False))) (fun _ _ _ => False)) (fun _ _ _ => False)
set_option maxRecDepth 20000 in
theorem t_case5 {l : Launch} {D : va_G} {aC : Nat → ClassId} {ad : Nat → Nat} (hlt : l.stackTraces = false) {b L0 k n : Nat} (hkn : k + 100 ≤ 601024 ∧ n + 1000 ≤ 7293034) {xs : Nat → Int32} {x4 : Int32} {I : am_MI} {J : am_MJ} {K : am_MI → am_MJ → Prop} (kk : ∀ (I : am_MI) (J : am_MJ), K I J → am l D aC "BubbleBoxLaw" cL_law 8 (some .boolean) false [] (am_GS b L0 xs) room_1 601024 7293034 (k + 1) (n + 6) 1101 [(0, .ref b), (1, .ref (ad 0)), (2, .ref (ad 28)), (3, .ref (ad 45)), (4, .int x4)] [] (am_w ad aC I J) (fun v _ => v = some (.int 1)) (am_lx ad aC (fun _ _ _ => False))) (h : w_case5 L0 xs x4 I J K) : am l D aC "BubbleBoxLaw" cL_law 8 (some .boolean) false [] (am_GS b L0 xs) room_1 601024 7293034 k n 277 [(0, .ref b), (1, .ref (ad 0)), (2, .ref (ad 28)), (3, .ref (ad 45)), (4, .int x4)] [] (am_w ad aC I J) (fun v _ => v = some (.int 1)) (am_lx ad aC (fun _ _ _ => False)) := by
  unfold w_case5 at h
  have hk1 := hkn.1
  have hn1 := hkn.2
  refine am_aload_n 1 dL_law_277 rfl rfl ?_
  refine kV_B_mount dL_law_278 (am_tw kw_191 rfl) (Nat.le_of_ble_eq_true rfl) ⟨Nat.le_of_ble_eq_true rfl, Nat.le_of_ble_eq_true rfl⟩ ⟨by show k + 1 ≤ 601024; omega, by show n + 6 ≤ 7293034; omega⟩ ⟨by omega, by omega⟩ hlt h (fun r3 I1 J2 h => ?_)
  refine am_aload_n 2 dL_law_281 rfl rfl ?_
  refine kV_M_mount dL_law_282 (am_tw kw_816 rfl) (Nat.le_of_ble_eq_true rfl) ⟨Nat.le_of_ble_eq_true rfl, Nat.le_of_ble_eq_true rfl⟩ ⟨by show k + 1 ≤ 601024; omega, by show n + 6 ≤ 7293034; omega⟩ ⟨by omega, by omega⟩ hlt h (fun r6 I4 J5 h => ?_)
  refine am_icmp_eq 1101 dL_law_285 (by decide) (fun hc7 => ?_) (fun hc7 => ?_)
  · replace h := h.1 hc7
    exact am_sub [0, 1, 2, 3, 4] rfl (am_widen (by omega) (by omega) (kk _ _ h))
  · replace h := h.2 hc7
    refine am_iconst (v := 0) dL_law_288 (by decide) ?_
    exact h.elim
def w_case6 (L0 : Nat) (xs : Nat → Int32) (x4 : Int32) (I : am_MI) (J : am_MJ) (K : am_MI → am_MJ → Prop) : Prop :=
  vp_in (x4 + (1 : Int32)) L0 ∧ (w_L_create (xs (x4 + (1 : Int32)).toNatClampNeg) I J (fun (r4 : Int32) (I2 : am_MI) (J3 : am_MJ) => vp_in (x4 + (1 : Int32)) L0 ∧ (w_M_create (xs (x4 + (1 : Int32)).toNatClampNeg) I2 J3 (fun (r8 : Int32) (I6 : am_MI) (J7 : am_MJ) => w_M_thrown I6 J7 (fun (r11 : Int32) (I9 : am_MI) (J10 : am_MJ) => (r11 = r4 → ((¬ r4 = 0 → (K I9 J10)) ∧ (r4 = 0 → (vp_in (0 : Int32) 1 ∧ (((lg_cmp (J10 45 (0 : Int32).toNatClampNeg) r8.toInt64) = 0 → (K I9 J10)) ∧ (¬ ((lg_cmp (J10 45 (0 : Int32).toNatClampNeg) r8.toInt64) = 0) → (False))))))) ∧ (¬ (r11 = r4) → (False))) (fun _ _ _ => False)) (fun _ _ _ => False))) (fun _ _ _ => False))
set_option maxRecDepth 20000 in
theorem t_case6 {l : Launch} {D : va_G} {aC : Nat → ClassId} {ad : Nat → Nat} (hlt : l.stackTraces = false) {b L0 k n : Nat} (hkn : k + 100 ≤ 601024 ∧ n + 1000 ≤ 7293034) {xs : Nat → Int32} {x4 : Int32} {I : am_MI} {J : am_MJ} {K : am_MI → am_MJ → Prop} (kk : ∀ (I : am_MI) (J : am_MJ), K I J → am l D aC "BubbleBoxLaw" cL_law 8 (some .boolean) false [] (am_GS b L0 xs) room_1 601024 7293034 (k + 1) (n + 6) 1101 [(0, .ref b), (1, .ref (ad 0)), (2, .ref (ad 28)), (3, .ref (ad 45)), (4, .int x4)] [] (am_w ad aC I J) (fun v _ => v = some (.int 1)) (am_lx ad aC (fun _ _ _ => False))) (h : w_case6 L0 xs x4 I J K) : am l D aC "BubbleBoxLaw" cL_law 8 (some .boolean) false [] (am_GS b L0 xs) room_1 601024 7293034 k n 290 [(0, .ref b), (1, .ref (ad 0)), (2, .ref (ad 28)), (3, .ref (ad 45)), (4, .int x4)] [] (am_w ad aC I J) (fun v _ => v = some (.int 1)) (am_lx ad aC (fun _ _ _ => False)) := by
  unfold w_case6 at h
  have hk1 := hkn.1
  have hn1 := hkn.2
  refine am_aload_n 1 dL_law_290 rfl rfl ?_
  refine am_aload_n 0 dL_law_291 rfl rfl ?_
  refine am_iload 4 dL_law_292 rfl ?_
  refine am_iconst (v := 1) dL_law_294 (by decide) ?_
  refine am_iadd dL_law_295 ?_
  obtain ⟨hi1, h⟩ := h
  refine am_sld hi1 dL_law_296 ?_
  refine am_aload_n 3 dL_law_297 rfl rfl ?_
  refine kH_L_create dL_law_298 (am_tw kw_415 rfl) (Nat.le_of_ble_eq_true rfl) ⟨Nat.le_of_ble_eq_true rfl, Nat.le_of_ble_eq_true rfl⟩ ⟨by show k + 2 ≤ 601024; omega, by show n + 12 ≤ 7293034; omega⟩ ⟨by omega, by omega⟩ hlt h (fun r4 I2 J3 h => ?_)
  refine am_istore (L2 := [(5, .int r4), (0, .ref b), (1, .ref (ad 0)), (2, .ref (ad 28)), (3, .ref (ad 45)), (4, .int x4)]) dL_law_301 (Nat.le_of_ble_eq_true rfl) rfl ?_
  refine am_aload_n 3 dL_law_303 rfl rfl ?_
  refine am_aload_n 1 dL_law_304 rfl rfl ?_
  refine am_iload 5 dL_law_305 rfl ?_
  refine am_iconst (v := 1) dL_law_307 (by decide) ?_
  refine am_iadd dL_law_308 ?_
  obtain ⟨hi5, h⟩ := h
  refine am_sld hi5 dL_law_309 ?_
  refine kV_M_create dL_law_310 (am_tw kw_832 rfl) (Nat.le_of_ble_eq_true rfl) ⟨Nat.le_of_ble_eq_true rfl, Nat.le_of_ble_eq_true rfl⟩ ⟨by show (k + 1) + 1 ≤ 601024; omega, by show (n + 6) + 6 ≤ 7293034; omega⟩ ⟨by omega, by omega⟩ hlt h (fun r8 I6 J7 h => ?_)
  refine am_istore (L2 := [(6, .int r8), (5, .int r4), (0, .ref b), (1, .ref (ad 0)), (2, .ref (ad 28)), (3, .ref (ad 45)), (4, .int x4)]) dL_law_313 (Nat.le_of_ble_eq_true rfl) rfl ?_
  refine am_aload_n 4 dL_law_315 rfl rfl ?_
  refine kV_M_thrown dL_law_316 (am_tw kw_741 rfl) (Nat.le_of_ble_eq_true rfl) ⟨Nat.le_of_ble_eq_true rfl, Nat.le_of_ble_eq_true rfl⟩ ⟨by show (k + 1) + 1 ≤ 601024; omega, by show (n + 6) + 6 ≤ 7293034; omega⟩ ⟨by omega, by omega⟩ hlt h (fun r11 I9 J10 h => ?_)
  refine am_iload 1 dL_law_319 rfl ?_
  refine am_icmp_eq 326 dL_law_321 (by decide) (fun hc12 => ?_) (fun hc12 => ?_)
  · replace h := h.1 hc12
    refine am_iload 1 dL_law_326 rfl ?_
    refine am_if_ne 343 dL_law_328 (by decide) (fun hc13 => ?_) (fun hc13 => ?_)
    · replace h := h.1 hc13
      refine am_goto 1101 dL_law_343 (by decide) ?_
      exact am_sub [2, 3, 4, 5, 6] rfl (am_widen (by omega) (by omega) (kk _ _ h))
    · replace h := h.2 hc13
      refine am_aload_n 5 dL_law_331 rfl rfl ?_
      refine am_iconst (v := 0) dL_law_332 (by decide) ?_
      obtain ⟨hi14, h⟩ := h
      refine ld_45 hi14 dL_law_333 ?_
      refine am_iload 0 dL_law_334 rfl ?_
      refine am_i2l dL_law_336 ?_
      refine am_lcmp dL_law_337 ?_
      refine am_if_eq 343 dL_law_338 (by decide) (fun hc15 => ?_) (fun hc15 => ?_)
      · replace h := h.1 hc15
        refine am_goto 1101 dL_law_343 (by decide) ?_
        exact am_sub [2, 3, 4, 5, 6] rfl (am_widen (by omega) (by omega) (kk _ _ h))
      · replace h := h.2 hc15
        refine am_iconst (v := 0) dL_law_341 (by decide) ?_
        exact h.elim
  · replace h := h.2 hc12
    refine am_iconst (v := 0) dL_law_324 (by decide) ?_
    exact h.elim
def w_case7 (L0 : Nat) (xs : Nat → Int32) (x4 : Int32) (I : am_MI) (J : am_MJ) (K : am_MI → am_MJ → Prop) : Prop :=
  vp_in (x4 + (1 : Int32)) L0 ∧ (w_L_find (xs (x4 + (1 : Int32)).toNatClampNeg) I J (fun (r4 : Int32) (I2 : am_MI) (J3 : am_MJ) => vp_in (x4 + (1 : Int32)) L0 ∧ (w_M_find (xs (x4 + (1 : Int32)).toNatClampNeg) I2 J3 (fun (r8 : Int32) (I6 : am_MI) (J7 : am_MJ) => w_M_thrown I6 J7 (fun (r11 : Int32) (I9 : am_MI) (J10 : am_MJ) => (r11 = r4 → ((¬ r4 = 0 → (K I9 J10)) ∧ (r4 = 0 → (vp_in (0 : Int32) 1 ∧ (((lg_cmp (J10 45 (0 : Int32).toNatClampNeg) r8.toInt64) = 0 → (K I9 J10)) ∧ (¬ ((lg_cmp (J10 45 (0 : Int32).toNatClampNeg) r8.toInt64) = 0) → (False))))))) ∧ (¬ (r11 = r4) → (False))) (fun _ _ _ => False)) (fun _ _ _ => False))) (fun _ _ _ => False))
set_option maxRecDepth 20000 in
theorem t_case7 {l : Launch} {D : va_G} {aC : Nat → ClassId} {ad : Nat → Nat} (hlt : l.stackTraces = false) {b L0 k n : Nat} (hkn : k + 100 ≤ 601024 ∧ n + 1000 ≤ 7293034) {xs : Nat → Int32} {x4 : Int32} {I : am_MI} {J : am_MJ} {K : am_MI → am_MJ → Prop} (kk : ∀ (I : am_MI) (J : am_MJ), K I J → am l D aC "BubbleBoxLaw" cL_law 8 (some .boolean) false [] (am_GS b L0 xs) room_1 601024 7293034 (k + 1) (n + 6) 1101 [(0, .ref b), (1, .ref (ad 0)), (2, .ref (ad 28)), (3, .ref (ad 45)), (4, .int x4)] [] (am_w ad aC I J) (fun v _ => v = some (.int 1)) (am_lx ad aC (fun _ _ _ => False))) (h : w_case7 L0 xs x4 I J K) : am l D aC "BubbleBoxLaw" cL_law 8 (some .boolean) false [] (am_GS b L0 xs) room_1 601024 7293034 k n 346 [(0, .ref b), (1, .ref (ad 0)), (2, .ref (ad 28)), (3, .ref (ad 45)), (4, .int x4)] [] (am_w ad aC I J) (fun v _ => v = some (.int 1)) (am_lx ad aC (fun _ _ _ => False)) := by
  unfold w_case7 at h
  have hk1 := hkn.1
  have hn1 := hkn.2
  refine am_aload_n 1 dL_law_346 rfl rfl ?_
  refine am_aload_n 0 dL_law_347 rfl rfl ?_
  refine am_iload 4 dL_law_348 rfl ?_
  refine am_iconst (v := 1) dL_law_350 (by decide) ?_
  refine am_iadd dL_law_351 ?_
  obtain ⟨hi1, h⟩ := h
  refine am_sld hi1 dL_law_352 ?_
  refine am_aload_n 3 dL_law_353 rfl rfl ?_
  refine kH_L_find dL_law_354 (am_tw kw_449 rfl) (Nat.le_of_ble_eq_true rfl) ⟨Nat.le_of_ble_eq_true rfl, Nat.le_of_ble_eq_true rfl⟩ ⟨by show k + 2 ≤ 601024; omega, by show n + 12 ≤ 7293034; omega⟩ ⟨by omega, by omega⟩ hlt h (fun r4 I2 J3 h => ?_)
  refine am_istore (L2 := [(5, .int r4), (0, .ref b), (1, .ref (ad 0)), (2, .ref (ad 28)), (3, .ref (ad 45)), (4, .int x4)]) dL_law_357 (Nat.le_of_ble_eq_true rfl) rfl ?_
  refine am_aload_n 3 dL_law_359 rfl rfl ?_
  refine am_aload_n 1 dL_law_360 rfl rfl ?_
  refine am_iload 5 dL_law_361 rfl ?_
  refine am_iconst (v := 1) dL_law_363 (by decide) ?_
  refine am_iadd dL_law_364 ?_
  obtain ⟨hi5, h⟩ := h
  refine am_sld hi5 dL_law_365 ?_
  refine kV_M_find dL_law_366 (am_tw kw_844 rfl) (Nat.le_of_ble_eq_true rfl) ⟨Nat.le_of_ble_eq_true rfl, Nat.le_of_ble_eq_true rfl⟩ ⟨by show (k + 1) + 1 ≤ 601024; omega, by show (n + 6) + 6 ≤ 7293034; omega⟩ ⟨by omega, by omega⟩ hlt h (fun r8 I6 J7 h => ?_)
  refine am_istore (L2 := [(6, .int r8), (5, .int r4), (0, .ref b), (1, .ref (ad 0)), (2, .ref (ad 28)), (3, .ref (ad 45)), (4, .int x4)]) dL_law_369 (Nat.le_of_ble_eq_true rfl) rfl ?_
  refine am_aload_n 4 dL_law_371 rfl rfl ?_
  refine kV_M_thrown dL_law_372 (am_tw kw_741 rfl) (Nat.le_of_ble_eq_true rfl) ⟨Nat.le_of_ble_eq_true rfl, Nat.le_of_ble_eq_true rfl⟩ ⟨by show (k + 1) + 1 ≤ 601024; omega, by show (n + 6) + 6 ≤ 7293034; omega⟩ ⟨by omega, by omega⟩ hlt h (fun r11 I9 J10 h => ?_)
  refine am_iload 1 dL_law_375 rfl ?_
  refine am_icmp_eq 382 dL_law_377 (by decide) (fun hc12 => ?_) (fun hc12 => ?_)
  · replace h := h.1 hc12
    refine am_iload 1 dL_law_382 rfl ?_
    refine am_if_ne 399 dL_law_384 (by decide) (fun hc13 => ?_) (fun hc13 => ?_)
    · replace h := h.1 hc13
      refine am_goto 1101 dL_law_399 (by decide) ?_
      exact am_sub [2, 3, 4, 5, 6] rfl (am_widen (by omega) (by omega) (kk _ _ h))
    · replace h := h.2 hc13
      refine am_aload_n 5 dL_law_387 rfl rfl ?_
      refine am_iconst (v := 0) dL_law_388 (by decide) ?_
      obtain ⟨hi14, h⟩ := h
      refine ld_45 hi14 dL_law_389 ?_
      refine am_iload 0 dL_law_390 rfl ?_
      refine am_i2l dL_law_392 ?_
      refine am_lcmp dL_law_393 ?_
      refine am_if_eq 399 dL_law_394 (by decide) (fun hc15 => ?_) (fun hc15 => ?_)
      · replace h := h.1 hc15
        refine am_goto 1101 dL_law_399 (by decide) ?_
        exact am_sub [2, 3, 4, 5, 6] rfl (am_widen (by omega) (by omega) (kk _ _ h))
      · replace h := h.2 hc15
        refine am_iconst (v := 0) dL_law_397 (by decide) ?_
        exact h.elim
  · replace h := h.2 hc12
    refine am_iconst (v := 0) dL_law_380 (by decide) ?_
    exact h.elim
def w_case8 (L0 : Nat) (xs : Nat → Int32) (x4 : Int32) (I : am_MI) (J : am_MJ) (K : am_MI → am_MJ → Prop) : Prop :=
  vp_in (x4 + (1 : Int32)) L0 ∧ (w_L_length (xs (x4 + (1 : Int32)).toNatClampNeg) I J (fun (r4 : Int32) (I2 : am_MI) (J3 : am_MJ) => vp_in (x4 + (1 : Int32)) L0 ∧ (w_M_length (xs (x4 + (1 : Int32)).toNatClampNeg) I2 J3 (fun (r8 : Int32) (I6 : am_MI) (J7 : am_MJ) => w_M_thrown I6 J7 (fun (r11 : Int32) (I9 : am_MI) (J10 : am_MJ) => (r11 = r4 → ((¬ r4 = 0 → (K I9 J10)) ∧ (r4 = 0 → (vp_in (0 : Int32) 1 ∧ (((lg_cmp (J10 45 (0 : Int32).toNatClampNeg) r8.toInt64) = 0 → (K I9 J10)) ∧ (¬ ((lg_cmp (J10 45 (0 : Int32).toNatClampNeg) r8.toInt64) = 0) → (False))))))) ∧ (¬ (r11 = r4) → (False))) (fun _ _ _ => False)) (fun _ _ _ => False))) (fun _ _ _ => False))
set_option maxRecDepth 20000 in
theorem t_case8 {l : Launch} {D : va_G} {aC : Nat → ClassId} {ad : Nat → Nat} (hlt : l.stackTraces = false) {b L0 k n : Nat} (hkn : k + 100 ≤ 601024 ∧ n + 1000 ≤ 7293034) {xs : Nat → Int32} {x4 : Int32} {I : am_MI} {J : am_MJ} {K : am_MI → am_MJ → Prop} (kk : ∀ (I : am_MI) (J : am_MJ), K I J → am l D aC "BubbleBoxLaw" cL_law 8 (some .boolean) false [] (am_GS b L0 xs) room_1 601024 7293034 (k + 1) (n + 6) 1101 [(0, .ref b), (1, .ref (ad 0)), (2, .ref (ad 28)), (3, .ref (ad 45)), (4, .int x4)] [] (am_w ad aC I J) (fun v _ => v = some (.int 1)) (am_lx ad aC (fun _ _ _ => False))) (h : w_case8 L0 xs x4 I J K) : am l D aC "BubbleBoxLaw" cL_law 8 (some .boolean) false [] (am_GS b L0 xs) room_1 601024 7293034 k n 402 [(0, .ref b), (1, .ref (ad 0)), (2, .ref (ad 28)), (3, .ref (ad 45)), (4, .int x4)] [] (am_w ad aC I J) (fun v _ => v = some (.int 1)) (am_lx ad aC (fun _ _ _ => False)) := by
  unfold w_case8 at h
  have hk1 := hkn.1
  have hn1 := hkn.2
  refine am_aload_n 1 dL_law_402 rfl rfl ?_
  refine am_aload_n 0 dL_law_403 rfl rfl ?_
  refine am_iload 4 dL_law_404 rfl ?_
  refine am_iconst (v := 1) dL_law_406 (by decide) ?_
  refine am_iadd dL_law_407 ?_
  obtain ⟨hi1, h⟩ := h
  refine am_sld hi1 dL_law_408 ?_
  refine am_aload_n 3 dL_law_409 rfl rfl ?_
  refine kH_L_length dL_law_410 (am_tw kw_456 rfl) (Nat.le_of_ble_eq_true rfl) ⟨Nat.le_of_ble_eq_true rfl, Nat.le_of_ble_eq_true rfl⟩ ⟨by show k + 2 ≤ 601024; omega, by show n + 12 ≤ 7293034; omega⟩ ⟨by omega, by omega⟩ hlt h (fun r4 I2 J3 h => ?_)
  refine am_istore (L2 := [(5, .int r4), (0, .ref b), (1, .ref (ad 0)), (2, .ref (ad 28)), (3, .ref (ad 45)), (4, .int x4)]) dL_law_413 (Nat.le_of_ble_eq_true rfl) rfl ?_
  refine am_aload_n 3 dL_law_415 rfl rfl ?_
  refine am_aload_n 1 dL_law_416 rfl rfl ?_
  refine am_iload 5 dL_law_417 rfl ?_
  refine am_iconst (v := 1) dL_law_419 (by decide) ?_
  refine am_iadd dL_law_420 ?_
  obtain ⟨hi5, h⟩ := h
  refine am_sld hi5 dL_law_421 ?_
  refine kV_M_length dL_law_422 (am_tw kw_848 rfl) (Nat.le_of_ble_eq_true rfl) ⟨Nat.le_of_ble_eq_true rfl, Nat.le_of_ble_eq_true rfl⟩ ⟨by show (k + 1) + 1 ≤ 601024; omega, by show (n + 6) + 6 ≤ 7293034; omega⟩ ⟨by omega, by omega⟩ hlt h (fun r8 I6 J7 h => ?_)
  refine am_istore (L2 := [(6, .int r8), (5, .int r4), (0, .ref b), (1, .ref (ad 0)), (2, .ref (ad 28)), (3, .ref (ad 45)), (4, .int x4)]) dL_law_425 (Nat.le_of_ble_eq_true rfl) rfl ?_
  refine am_aload_n 4 dL_law_427 rfl rfl ?_
  refine kV_M_thrown dL_law_428 (am_tw kw_741 rfl) (Nat.le_of_ble_eq_true rfl) ⟨Nat.le_of_ble_eq_true rfl, Nat.le_of_ble_eq_true rfl⟩ ⟨by show (k + 1) + 1 ≤ 601024; omega, by show (n + 6) + 6 ≤ 7293034; omega⟩ ⟨by omega, by omega⟩ hlt h (fun r11 I9 J10 h => ?_)
  refine am_iload 1 dL_law_431 rfl ?_
  refine am_icmp_eq 438 dL_law_433 (by decide) (fun hc12 => ?_) (fun hc12 => ?_)
  · replace h := h.1 hc12
    refine am_iload 1 dL_law_438 rfl ?_
    refine am_if_ne 455 dL_law_440 (by decide) (fun hc13 => ?_) (fun hc13 => ?_)
    · replace h := h.1 hc13
      refine am_goto 1101 dL_law_455 (by decide) ?_
      exact am_sub [2, 3, 4, 5, 6] rfl (am_widen (by omega) (by omega) (kk _ _ h))
    · replace h := h.2 hc13
      refine am_aload_n 5 dL_law_443 rfl rfl ?_
      refine am_iconst (v := 0) dL_law_444 (by decide) ?_
      obtain ⟨hi14, h⟩ := h
      refine ld_45 hi14 dL_law_445 ?_
      refine am_iload 0 dL_law_446 rfl ?_
      refine am_i2l dL_law_448 ?_
      refine am_lcmp dL_law_449 ?_
      refine am_if_eq 455 dL_law_450 (by decide) (fun hc15 => ?_) (fun hc15 => ?_)
      · replace h := h.1 hc15
        refine am_goto 1101 dL_law_455 (by decide) ?_
        exact am_sub [2, 3, 4, 5, 6] rfl (am_widen (by omega) (by omega) (kk _ _ h))
      · replace h := h.2 hc15
        refine am_iconst (v := 0) dL_law_453 (by decide) ?_
        exact h.elim
  · replace h := h.2 hc12
    refine am_iconst (v := 0) dL_law_436 (by decide) ?_
    exact h.elim
def w_case9 (L0 : Nat) (xs : Nat → Int32) (x4 : Int32) (I : am_MI) (J : am_MJ) (K : am_MI → am_MJ → Prop) : Prop :=
  vp_in (x4 + (1 : Int32)) L0 ∧ (vp_in (x4 + (2 : Int32)) L0 ∧ (w_L_append (xs (x4 + (1 : Int32)).toNatClampNeg) (xs (x4 + (2 : Int32)).toNatClampNeg) I J (fun (r5 : Int32) (I3 : am_MI) (J4 : am_MJ) => vp_in (x4 + (1 : Int32)) L0 ∧ (vp_in (x4 + (2 : Int32)) L0 ∧ (w_M_append (xs (x4 + (1 : Int32)).toNatClampNeg) (xs (x4 + (2 : Int32)).toNatClampNeg) I3 J4 (fun (r10 : Int32) (I8 : am_MI) (J9 : am_MJ) => w_M_thrown I8 J9 (fun (r13 : Int32) (I11 : am_MI) (J12 : am_MJ) => (r13 = r5 → ((¬ r5 = 0 → (K I11 J12)) ∧ (r5 = 0 → (vp_in (0 : Int32) 1 ∧ (((lg_cmp (J12 45 (0 : Int32).toNatClampNeg) r10.toInt64) = 0 → (K I11 J12)) ∧ (¬ ((lg_cmp (J12 45 (0 : Int32).toNatClampNeg) r10.toInt64) = 0) → (False))))))) ∧ (¬ (r13 = r5) → (False))) (fun _ _ _ => False)) (fun _ _ _ => False)))) (fun _ _ _ => False)))
set_option maxRecDepth 20000 in
theorem t_case9 {l : Launch} {D : va_G} {aC : Nat → ClassId} {ad : Nat → Nat} (hlt : l.stackTraces = false) {b L0 k n : Nat} (hkn : k + 100 ≤ 601024 ∧ n + 1000 ≤ 7293034) {xs : Nat → Int32} {x4 : Int32} {I : am_MI} {J : am_MJ} {K : am_MI → am_MJ → Prop} (kk : ∀ (I : am_MI) (J : am_MJ), K I J → am l D aC "BubbleBoxLaw" cL_law 8 (some .boolean) false [] (am_GS b L0 xs) room_1 601024 7293034 (k + 1) (n + 6) 1101 [(0, .ref b), (1, .ref (ad 0)), (2, .ref (ad 28)), (3, .ref (ad 45)), (4, .int x4)] [] (am_w ad aC I J) (fun v _ => v = some (.int 1)) (am_lx ad aC (fun _ _ _ => False))) (h : w_case9 L0 xs x4 I J K) : am l D aC "BubbleBoxLaw" cL_law 8 (some .boolean) false [] (am_GS b L0 xs) room_1 601024 7293034 k n 458 [(0, .ref b), (1, .ref (ad 0)), (2, .ref (ad 28)), (3, .ref (ad 45)), (4, .int x4)] [] (am_w ad aC I J) (fun v _ => v = some (.int 1)) (am_lx ad aC (fun _ _ _ => False)) := by
  unfold w_case9 at h
  have hk1 := hkn.1
  have hn1 := hkn.2
  refine am_aload_n 1 dL_law_458 rfl rfl ?_
  refine am_aload_n 0 dL_law_459 rfl rfl ?_
  refine am_iload 4 dL_law_460 rfl ?_
  refine am_iconst (v := 1) dL_law_462 (by decide) ?_
  refine am_iadd dL_law_463 ?_
  obtain ⟨hi1, h⟩ := h
  refine am_sld hi1 dL_law_464 ?_
  refine am_aload_n 0 dL_law_465 rfl rfl ?_
  refine am_iload 4 dL_law_466 rfl ?_
  refine am_iconst (v := 2) dL_law_468 (by decide) ?_
  refine am_iadd dL_law_469 ?_
  obtain ⟨hi2, h⟩ := h
  refine am_sld hi2 dL_law_470 ?_
  refine am_aload_n 3 dL_law_471 rfl rfl ?_
  refine kH_L_append dL_law_472 (am_tw kw_468 rfl) (Nat.le_of_ble_eq_true rfl) ⟨Nat.le_of_ble_eq_true rfl, Nat.le_of_ble_eq_true rfl⟩ ⟨by show k + 2 ≤ 601024; omega, by show n + 12 ≤ 7293034; omega⟩ ⟨by omega, by omega⟩ hlt h (fun r5 I3 J4 h => ?_)
  refine am_istore (L2 := [(5, .int r5), (0, .ref b), (1, .ref (ad 0)), (2, .ref (ad 28)), (3, .ref (ad 45)), (4, .int x4)]) dL_law_475 (Nat.le_of_ble_eq_true rfl) rfl ?_
  refine am_aload_n 3 dL_law_477 rfl rfl ?_
  refine am_aload_n 1 dL_law_478 rfl rfl ?_
  refine am_iload 5 dL_law_479 rfl ?_
  refine am_iconst (v := 1) dL_law_481 (by decide) ?_
  refine am_iadd dL_law_482 ?_
  obtain ⟨hi6, h⟩ := h
  refine am_sld hi6 dL_law_483 ?_
  refine am_aload_n 1 dL_law_484 rfl rfl ?_
  refine am_iload 5 dL_law_485 rfl ?_
  refine am_iconst (v := 2) dL_law_487 (by decide) ?_
  refine am_iadd dL_law_488 ?_
  obtain ⟨hi7, h⟩ := h
  refine am_sld hi7 dL_law_489 ?_
  refine kV_M_append dL_law_490 (am_tw kw_856 rfl) (Nat.le_of_ble_eq_true rfl) ⟨Nat.le_of_ble_eq_true rfl, Nat.le_of_ble_eq_true rfl⟩ ⟨by show (k + 1) + 1 ≤ 601024; omega, by show (n + 6) + 6 ≤ 7293034; omega⟩ ⟨by omega, by omega⟩ hlt h (fun r10 I8 J9 h => ?_)
  refine am_istore (L2 := [(6, .int r10), (5, .int r5), (0, .ref b), (1, .ref (ad 0)), (2, .ref (ad 28)), (3, .ref (ad 45)), (4, .int x4)]) dL_law_493 (Nat.le_of_ble_eq_true rfl) rfl ?_
  refine am_aload_n 4 dL_law_495 rfl rfl ?_
  refine kV_M_thrown dL_law_496 (am_tw kw_741 rfl) (Nat.le_of_ble_eq_true rfl) ⟨Nat.le_of_ble_eq_true rfl, Nat.le_of_ble_eq_true rfl⟩ ⟨by show (k + 1) + 1 ≤ 601024; omega, by show (n + 6) + 6 ≤ 7293034; omega⟩ ⟨by omega, by omega⟩ hlt h (fun r13 I11 J12 h => ?_)
  refine am_iload 1 dL_law_499 rfl ?_
  refine am_icmp_eq 506 dL_law_501 (by decide) (fun hc14 => ?_) (fun hc14 => ?_)
  · replace h := h.1 hc14
    refine am_iload 1 dL_law_506 rfl ?_
    refine am_if_ne 523 dL_law_508 (by decide) (fun hc15 => ?_) (fun hc15 => ?_)
    · replace h := h.1 hc15
      refine am_goto 1101 dL_law_523 (by decide) ?_
      exact am_sub [2, 3, 4, 5, 6] rfl (am_widen (by omega) (by omega) (kk _ _ h))
    · replace h := h.2 hc15
      refine am_aload_n 5 dL_law_511 rfl rfl ?_
      refine am_iconst (v := 0) dL_law_512 (by decide) ?_
      obtain ⟨hi16, h⟩ := h
      refine ld_45 hi16 dL_law_513 ?_
      refine am_iload 0 dL_law_514 rfl ?_
      refine am_i2l dL_law_516 ?_
      refine am_lcmp dL_law_517 ?_
      refine am_if_eq 523 dL_law_518 (by decide) (fun hc17 => ?_) (fun hc17 => ?_)
      · replace h := h.1 hc17
        refine am_goto 1101 dL_law_523 (by decide) ?_
        exact am_sub [2, 3, 4, 5, 6] rfl (am_widen (by omega) (by omega) (kk _ _ h))
      · replace h := h.2 hc17
        refine am_iconst (v := 0) dL_law_521 (by decide) ?_
        exact h.elim
  · replace h := h.2 hc14
    refine am_iconst (v := 0) dL_law_504 (by decide) ?_
    exact h.elim
def w_case10 (L0 : Nat) (xs : Nat → Int32) (x4 : Int32) (I : am_MI) (J : am_MJ) (K : am_MI → am_MJ → Prop) : Prop :=
  vp_in (x4 + (1 : Int32)) L0 ∧ (vp_in (x4 + (2 : Int32)) L0 ∧ (w_L_byteAt (xs (x4 + (1 : Int32)).toNatClampNeg) (xs (x4 + (2 : Int32)).toNatClampNeg) I J (fun (r5 : Int32) (I3 : am_MI) (J4 : am_MJ) => vp_in (x4 + (1 : Int32)) L0 ∧ (vp_in (x4 + (2 : Int32)) L0 ∧ (w_M_byteAt (xs (x4 + (1 : Int32)).toNatClampNeg) (xs (x4 + (2 : Int32)).toNatClampNeg) I3 J4 (fun (r10 : Int32) (I8 : am_MI) (J9 : am_MJ) => w_M_thrown I8 J9 (fun (r13 : Int32) (I11 : am_MI) (J12 : am_MJ) => (r13 = r5 → ((¬ r5 = 0 → (K I11 J12)) ∧ (r5 = 0 → (vp_in (0 : Int32) 1 ∧ (((lg_cmp (J12 45 (0 : Int32).toNatClampNeg) r10.toInt64) = 0 → (K I11 J12)) ∧ (¬ ((lg_cmp (J12 45 (0 : Int32).toNatClampNeg) r10.toInt64) = 0) → (False))))))) ∧ (¬ (r13 = r5) → (False))) (fun _ _ _ => False)) (fun _ _ _ => False)))) (fun _ _ _ => False)))
set_option maxRecDepth 20000 in
theorem t_case10 {l : Launch} {D : va_G} {aC : Nat → ClassId} {ad : Nat → Nat} (hlt : l.stackTraces = false) {b L0 k n : Nat} (hkn : k + 100 ≤ 601024 ∧ n + 1000 ≤ 7293034) {xs : Nat → Int32} {x4 : Int32} {I : am_MI} {J : am_MJ} {K : am_MI → am_MJ → Prop} (kk : ∀ (I : am_MI) (J : am_MJ), K I J → am l D aC "BubbleBoxLaw" cL_law 8 (some .boolean) false [] (am_GS b L0 xs) room_1 601024 7293034 (k + 1) (n + 6) 1101 [(0, .ref b), (1, .ref (ad 0)), (2, .ref (ad 28)), (3, .ref (ad 45)), (4, .int x4)] [] (am_w ad aC I J) (fun v _ => v = some (.int 1)) (am_lx ad aC (fun _ _ _ => False))) (h : w_case10 L0 xs x4 I J K) : am l D aC "BubbleBoxLaw" cL_law 8 (some .boolean) false [] (am_GS b L0 xs) room_1 601024 7293034 k n 526 [(0, .ref b), (1, .ref (ad 0)), (2, .ref (ad 28)), (3, .ref (ad 45)), (4, .int x4)] [] (am_w ad aC I J) (fun v _ => v = some (.int 1)) (am_lx ad aC (fun _ _ _ => False)) := by
  unfold w_case10 at h
  have hk1 := hkn.1
  have hn1 := hkn.2
  refine am_aload_n 1 dL_law_526 rfl rfl ?_
  refine am_aload_n 0 dL_law_527 rfl rfl ?_
  refine am_iload 4 dL_law_528 rfl ?_
  refine am_iconst (v := 1) dL_law_530 (by decide) ?_
  refine am_iadd dL_law_531 ?_
  obtain ⟨hi1, h⟩ := h
  refine am_sld hi1 dL_law_532 ?_
  refine am_aload_n 0 dL_law_533 rfl rfl ?_
  refine am_iload 4 dL_law_534 rfl ?_
  refine am_iconst (v := 2) dL_law_536 (by decide) ?_
  refine am_iadd dL_law_537 ?_
  obtain ⟨hi2, h⟩ := h
  refine am_sld hi2 dL_law_538 ?_
  refine am_aload_n 3 dL_law_539 rfl rfl ?_
  refine kH_L_byteAt dL_law_540 (am_tw kw_525 rfl) (Nat.le_of_ble_eq_true rfl) ⟨Nat.le_of_ble_eq_true rfl, Nat.le_of_ble_eq_true rfl⟩ ⟨by show k + 2 ≤ 601024; omega, by show n + 12 ≤ 7293034; omega⟩ ⟨by omega, by omega⟩ hlt h (fun r5 I3 J4 h => ?_)
  refine am_istore (L2 := [(5, .int r5), (0, .ref b), (1, .ref (ad 0)), (2, .ref (ad 28)), (3, .ref (ad 45)), (4, .int x4)]) dL_law_543 (Nat.le_of_ble_eq_true rfl) rfl ?_
  refine am_aload_n 3 dL_law_545 rfl rfl ?_
  refine am_aload_n 1 dL_law_546 rfl rfl ?_
  refine am_iload 5 dL_law_547 rfl ?_
  refine am_iconst (v := 1) dL_law_549 (by decide) ?_
  refine am_iadd dL_law_550 ?_
  obtain ⟨hi6, h⟩ := h
  refine am_sld hi6 dL_law_551 ?_
  refine am_aload_n 1 dL_law_552 rfl rfl ?_
  refine am_iload 5 dL_law_553 rfl ?_
  refine am_iconst (v := 2) dL_law_555 (by decide) ?_
  refine am_iadd dL_law_556 ?_
  obtain ⟨hi7, h⟩ := h
  refine am_sld hi7 dL_law_557 ?_
  refine kV_M_byteAt dL_law_558 (am_tw kw_877 rfl) (Nat.le_of_ble_eq_true rfl) ⟨Nat.le_of_ble_eq_true rfl, Nat.le_of_ble_eq_true rfl⟩ ⟨by show (k + 1) + 1 ≤ 601024; omega, by show (n + 6) + 6 ≤ 7293034; omega⟩ ⟨by omega, by omega⟩ hlt h (fun r10 I8 J9 h => ?_)
  refine am_istore (L2 := [(6, .int r10), (5, .int r5), (0, .ref b), (1, .ref (ad 0)), (2, .ref (ad 28)), (3, .ref (ad 45)), (4, .int x4)]) dL_law_561 (Nat.le_of_ble_eq_true rfl) rfl ?_
  refine am_aload_n 4 dL_law_563 rfl rfl ?_
  refine kV_M_thrown dL_law_564 (am_tw kw_741 rfl) (Nat.le_of_ble_eq_true rfl) ⟨Nat.le_of_ble_eq_true rfl, Nat.le_of_ble_eq_true rfl⟩ ⟨by show (k + 1) + 1 ≤ 601024; omega, by show (n + 6) + 6 ≤ 7293034; omega⟩ ⟨by omega, by omega⟩ hlt h (fun r13 I11 J12 h => ?_)
  refine am_iload 1 dL_law_567 rfl ?_
  refine am_icmp_eq 574 dL_law_569 (by decide) (fun hc14 => ?_) (fun hc14 => ?_)
  · replace h := h.1 hc14
    refine am_iload 1 dL_law_574 rfl ?_
    refine am_if_ne 591 dL_law_576 (by decide) (fun hc15 => ?_) (fun hc15 => ?_)
    · replace h := h.1 hc15
      refine am_goto 1101 dL_law_591 (by decide) ?_
      exact am_sub [2, 3, 4, 5, 6] rfl (am_widen (by omega) (by omega) (kk _ _ h))
    · replace h := h.2 hc15
      refine am_aload_n 5 dL_law_579 rfl rfl ?_
      refine am_iconst (v := 0) dL_law_580 (by decide) ?_
      obtain ⟨hi16, h⟩ := h
      refine ld_45 hi16 dL_law_581 ?_
      refine am_iload 0 dL_law_582 rfl ?_
      refine am_i2l dL_law_584 ?_
      refine am_lcmp dL_law_585 ?_
      refine am_if_eq 591 dL_law_586 (by decide) (fun hc17 => ?_) (fun hc17 => ?_)
      · replace h := h.1 hc17
        refine am_goto 1101 dL_law_591 (by decide) ?_
        exact am_sub [2, 3, 4, 5, 6] rfl (am_widen (by omega) (by omega) (kk _ _ h))
      · replace h := h.2 hc17
        refine am_iconst (v := 0) dL_law_589 (by decide) ?_
        exact h.elim
  · replace h := h.2 hc14
    refine am_iconst (v := 0) dL_law_572 (by decide) ?_
    exact h.elim
def w_case11 (L0 : Nat) (xs : Nat → Int32) (x4 : Int32) (I : am_MI) (J : am_MJ) (K : am_MI → am_MJ → Prop) : Prop :=
  vp_in (x4 + (1 : Int32)) L0 ∧ (vp_in (x4 + (2 : Int32)) L0 ∧ (w_L_truncate (xs (x4 + (1 : Int32)).toNatClampNeg) (xs (x4 + (2 : Int32)).toNatClampNeg) I J (fun (r5 : Int32) (I3 : am_MI) (J4 : am_MJ) => vp_in (x4 + (1 : Int32)) L0 ∧ (vp_in (x4 + (2 : Int32)) L0 ∧ (w_M_truncate (xs (x4 + (1 : Int32)).toNatClampNeg) (xs (x4 + (2 : Int32)).toNatClampNeg) I3 J4 (fun (r10 : Int32) (I8 : am_MI) (J9 : am_MJ) => w_M_thrown I8 J9 (fun (r13 : Int32) (I11 : am_MI) (J12 : am_MJ) => (r13 = r5 → ((¬ r5 = 0 → (K I11 J12)) ∧ (r5 = 0 → (vp_in (0 : Int32) 1 ∧ (((lg_cmp (J12 45 (0 : Int32).toNatClampNeg) r10.toInt64) = 0 → (K I11 J12)) ∧ (¬ ((lg_cmp (J12 45 (0 : Int32).toNatClampNeg) r10.toInt64) = 0) → (False))))))) ∧ (¬ (r13 = r5) → (False))) (fun _ _ _ => False)) (fun _ _ _ => False)))) (fun _ _ _ => False)))
set_option maxRecDepth 20000 in
theorem t_case11 {l : Launch} {D : va_G} {aC : Nat → ClassId} {ad : Nat → Nat} (hlt : l.stackTraces = false) {b L0 k n : Nat} (hkn : k + 100 ≤ 601024 ∧ n + 1000 ≤ 7293034) {xs : Nat → Int32} {x4 : Int32} {I : am_MI} {J : am_MJ} {K : am_MI → am_MJ → Prop} (kk : ∀ (I : am_MI) (J : am_MJ), K I J → am l D aC "BubbleBoxLaw" cL_law 8 (some .boolean) false [] (am_GS b L0 xs) room_1 601024 7293034 (k + 1) (n + 6) 1101 [(0, .ref b), (1, .ref (ad 0)), (2, .ref (ad 28)), (3, .ref (ad 45)), (4, .int x4)] [] (am_w ad aC I J) (fun v _ => v = some (.int 1)) (am_lx ad aC (fun _ _ _ => False))) (h : w_case11 L0 xs x4 I J K) : am l D aC "BubbleBoxLaw" cL_law 8 (some .boolean) false [] (am_GS b L0 xs) room_1 601024 7293034 k n 594 [(0, .ref b), (1, .ref (ad 0)), (2, .ref (ad 28)), (3, .ref (ad 45)), (4, .int x4)] [] (am_w ad aC I J) (fun v _ => v = some (.int 1)) (am_lx ad aC (fun _ _ _ => False)) := by
  unfold w_case11 at h
  have hk1 := hkn.1
  have hn1 := hkn.2
  refine am_aload_n 1 dL_law_594 rfl rfl ?_
  refine am_aload_n 0 dL_law_595 rfl rfl ?_
  refine am_iload 4 dL_law_596 rfl ?_
  refine am_iconst (v := 1) dL_law_598 (by decide) ?_
  refine am_iadd dL_law_599 ?_
  obtain ⟨hi1, h⟩ := h
  refine am_sld hi1 dL_law_600 ?_
  refine am_aload_n 0 dL_law_601 rfl rfl ?_
  refine am_iload 4 dL_law_602 rfl ?_
  refine am_iconst (v := 2) dL_law_604 (by decide) ?_
  refine am_iadd dL_law_605 ?_
  obtain ⟨hi2, h⟩ := h
  refine am_sld hi2 dL_law_606 ?_
  refine am_aload_n 3 dL_law_607 rfl rfl ?_
  refine kH_L_truncate dL_law_608 (am_tw kw_553 rfl) (Nat.le_of_ble_eq_true rfl) ⟨Nat.le_of_ble_eq_true rfl, Nat.le_of_ble_eq_true rfl⟩ ⟨by show k + 2 ≤ 601024; omega, by show n + 12 ≤ 7293034; omega⟩ ⟨by omega, by omega⟩ hlt h (fun r5 I3 J4 h => ?_)
  refine am_istore (L2 := [(5, .int r5), (0, .ref b), (1, .ref (ad 0)), (2, .ref (ad 28)), (3, .ref (ad 45)), (4, .int x4)]) dL_law_611 (Nat.le_of_ble_eq_true rfl) rfl ?_
  refine am_aload_n 3 dL_law_613 rfl rfl ?_
  refine am_aload_n 1 dL_law_614 rfl rfl ?_
  refine am_iload 5 dL_law_615 rfl ?_
  refine am_iconst (v := 1) dL_law_617 (by decide) ?_
  refine am_iadd dL_law_618 ?_
  obtain ⟨hi6, h⟩ := h
  refine am_sld hi6 dL_law_619 ?_
  refine am_aload_n 1 dL_law_620 rfl rfl ?_
  refine am_iload 5 dL_law_621 rfl ?_
  refine am_iconst (v := 2) dL_law_623 (by decide) ?_
  refine am_iadd dL_law_624 ?_
  obtain ⟨hi7, h⟩ := h
  refine am_sld hi7 dL_law_625 ?_
  refine kV_M_truncate dL_law_626 (am_tw kw_881 rfl) (Nat.le_of_ble_eq_true rfl) ⟨Nat.le_of_ble_eq_true rfl, Nat.le_of_ble_eq_true rfl⟩ ⟨by show (k + 1) + 1 ≤ 601024; omega, by show (n + 6) + 6 ≤ 7293034; omega⟩ ⟨by omega, by omega⟩ hlt h (fun r10 I8 J9 h => ?_)
  refine am_istore (L2 := [(6, .int r10), (5, .int r5), (0, .ref b), (1, .ref (ad 0)), (2, .ref (ad 28)), (3, .ref (ad 45)), (4, .int x4)]) dL_law_629 (Nat.le_of_ble_eq_true rfl) rfl ?_
  refine am_aload_n 4 dL_law_631 rfl rfl ?_
  refine kV_M_thrown dL_law_632 (am_tw kw_741 rfl) (Nat.le_of_ble_eq_true rfl) ⟨Nat.le_of_ble_eq_true rfl, Nat.le_of_ble_eq_true rfl⟩ ⟨by show (k + 1) + 1 ≤ 601024; omega, by show (n + 6) + 6 ≤ 7293034; omega⟩ ⟨by omega, by omega⟩ hlt h (fun r13 I11 J12 h => ?_)
  refine am_iload 1 dL_law_635 rfl ?_
  refine am_icmp_eq 642 dL_law_637 (by decide) (fun hc14 => ?_) (fun hc14 => ?_)
  · replace h := h.1 hc14
    refine am_iload 1 dL_law_642 rfl ?_
    refine am_if_ne 659 dL_law_644 (by decide) (fun hc15 => ?_) (fun hc15 => ?_)
    · replace h := h.1 hc15
      refine am_goto 1101 dL_law_659 (by decide) ?_
      exact am_sub [2, 3, 4, 5, 6] rfl (am_widen (by omega) (by omega) (kk _ _ h))
    · replace h := h.2 hc15
      refine am_aload_n 5 dL_law_647 rfl rfl ?_
      refine am_iconst (v := 0) dL_law_648 (by decide) ?_
      obtain ⟨hi16, h⟩ := h
      refine ld_45 hi16 dL_law_649 ?_
      refine am_iload 0 dL_law_650 rfl ?_
      refine am_i2l dL_law_652 ?_
      refine am_lcmp dL_law_653 ?_
      refine am_if_eq 659 dL_law_654 (by decide) (fun hc17 => ?_) (fun hc17 => ?_)
      · replace h := h.1 hc17
        refine am_goto 1101 dL_law_659 (by decide) ?_
        exact am_sub [2, 3, 4, 5, 6] rfl (am_widen (by omega) (by omega) (kk _ _ h))
      · replace h := h.2 hc17
        refine am_iconst (v := 0) dL_law_657 (by decide) ?_
        exact h.elim
  · replace h := h.2 hc14
    refine am_iconst (v := 0) dL_law_640 (by decide) ?_
    exact h.elim
def w_case12 (L0 : Nat) (xs : Nat → Int32) (x4 : Int32) (I : am_MI) (J : am_MJ) (K : am_MI → am_MJ → Prop) : Prop :=
  vp_in (x4 + (1 : Int32)) L0 ∧ (w_L_remove (xs (x4 + (1 : Int32)).toNatClampNeg) I J (fun (r4 : Int32) (I2 : am_MI) (J3 : am_MJ) => vp_in (x4 + (1 : Int32)) L0 ∧ (w_M_remove (xs (x4 + (1 : Int32)).toNatClampNeg) I2 J3 (fun (r8 : Int32) (I6 : am_MI) (J7 : am_MJ) => w_M_thrown I6 J7 (fun (r11 : Int32) (I9 : am_MI) (J10 : am_MJ) => (r11 = r4 → ((¬ r4 = 0 → (K I9 J10)) ∧ (r4 = 0 → (vp_in (0 : Int32) 1 ∧ (((lg_cmp (J10 45 (0 : Int32).toNatClampNeg) r8.toInt64) = 0 → (K I9 J10)) ∧ (¬ ((lg_cmp (J10 45 (0 : Int32).toNatClampNeg) r8.toInt64) = 0) → (False))))))) ∧ (¬ (r11 = r4) → (False))) (fun _ _ _ => False)) (fun _ _ _ => False))) (fun _ _ _ => False))
set_option maxRecDepth 20000 in
theorem t_case12 {l : Launch} {D : va_G} {aC : Nat → ClassId} {ad : Nat → Nat} (hlt : l.stackTraces = false) {b L0 k n : Nat} (hkn : k + 100 ≤ 601024 ∧ n + 1000 ≤ 7293034) {xs : Nat → Int32} {x4 : Int32} {I : am_MI} {J : am_MJ} {K : am_MI → am_MJ → Prop} (kk : ∀ (I : am_MI) (J : am_MJ), K I J → am l D aC "BubbleBoxLaw" cL_law 8 (some .boolean) false [] (am_GS b L0 xs) room_1 601024 7293034 (k + 1) (n + 6) 1101 [(0, .ref b), (1, .ref (ad 0)), (2, .ref (ad 28)), (3, .ref (ad 45)), (4, .int x4)] [] (am_w ad aC I J) (fun v _ => v = some (.int 1)) (am_lx ad aC (fun _ _ _ => False))) (h : w_case12 L0 xs x4 I J K) : am l D aC "BubbleBoxLaw" cL_law 8 (some .boolean) false [] (am_GS b L0 xs) room_1 601024 7293034 k n 662 [(0, .ref b), (1, .ref (ad 0)), (2, .ref (ad 28)), (3, .ref (ad 45)), (4, .int x4)] [] (am_w ad aC I J) (fun v _ => v = some (.int 1)) (am_lx ad aC (fun _ _ _ => False)) := by
  unfold w_case12 at h
  have hk1 := hkn.1
  have hn1 := hkn.2
  refine am_aload_n 1 dL_law_662 rfl rfl ?_
  refine am_aload_n 0 dL_law_663 rfl rfl ?_
  refine am_iload 4 dL_law_664 rfl ?_
  refine am_iconst (v := 1) dL_law_666 (by decide) ?_
  refine am_iadd dL_law_667 ?_
  obtain ⟨hi1, h⟩ := h
  refine am_sld hi1 dL_law_668 ?_
  refine am_aload_n 3 dL_law_669 rfl rfl ?_
  refine kH_L_remove dL_law_670 (am_tw kw_570 rfl) (Nat.le_of_ble_eq_true rfl) ⟨Nat.le_of_ble_eq_true rfl, Nat.le_of_ble_eq_true rfl⟩ ⟨by show k + 2 ≤ 601024; omega, by show n + 12 ≤ 7293034; omega⟩ ⟨by omega, by omega⟩ hlt h (fun r4 I2 J3 h => ?_)
  refine am_istore (L2 := [(5, .int r4), (0, .ref b), (1, .ref (ad 0)), (2, .ref (ad 28)), (3, .ref (ad 45)), (4, .int x4)]) dL_law_673 (Nat.le_of_ble_eq_true rfl) rfl ?_
  refine am_aload_n 3 dL_law_675 rfl rfl ?_
  refine am_aload_n 1 dL_law_676 rfl rfl ?_
  refine am_iload 5 dL_law_677 rfl ?_
  refine am_iconst (v := 1) dL_law_679 (by decide) ?_
  refine am_iadd dL_law_680 ?_
  obtain ⟨hi5, h⟩ := h
  refine am_sld hi5 dL_law_681 ?_
  refine kV_M_remove dL_law_682 (am_tw kw_889 rfl) (Nat.le_of_ble_eq_true rfl) ⟨Nat.le_of_ble_eq_true rfl, Nat.le_of_ble_eq_true rfl⟩ ⟨by show (k + 1) + 1 ≤ 601024; omega, by show (n + 6) + 6 ≤ 7293034; omega⟩ ⟨by omega, by omega⟩ hlt h (fun r8 I6 J7 h => ?_)
  refine am_istore (L2 := [(6, .int r8), (5, .int r4), (0, .ref b), (1, .ref (ad 0)), (2, .ref (ad 28)), (3, .ref (ad 45)), (4, .int x4)]) dL_law_685 (Nat.le_of_ble_eq_true rfl) rfl ?_
  refine am_aload_n 4 dL_law_687 rfl rfl ?_
  refine kV_M_thrown dL_law_688 (am_tw kw_741 rfl) (Nat.le_of_ble_eq_true rfl) ⟨Nat.le_of_ble_eq_true rfl, Nat.le_of_ble_eq_true rfl⟩ ⟨by show (k + 1) + 1 ≤ 601024; omega, by show (n + 6) + 6 ≤ 7293034; omega⟩ ⟨by omega, by omega⟩ hlt h (fun r11 I9 J10 h => ?_)
  refine am_iload 1 dL_law_691 rfl ?_
  refine am_icmp_eq 698 dL_law_693 (by decide) (fun hc12 => ?_) (fun hc12 => ?_)
  · replace h := h.1 hc12
    refine am_iload 1 dL_law_698 rfl ?_
    refine am_if_ne 715 dL_law_700 (by decide) (fun hc13 => ?_) (fun hc13 => ?_)
    · replace h := h.1 hc13
      refine am_goto 1101 dL_law_715 (by decide) ?_
      exact am_sub [2, 3, 4, 5, 6] rfl (am_widen (by omega) (by omega) (kk _ _ h))
    · replace h := h.2 hc13
      refine am_aload_n 5 dL_law_703 rfl rfl ?_
      refine am_iconst (v := 0) dL_law_704 (by decide) ?_
      obtain ⟨hi14, h⟩ := h
      refine ld_45 hi14 dL_law_705 ?_
      refine am_iload 0 dL_law_706 rfl ?_
      refine am_i2l dL_law_708 ?_
      refine am_lcmp dL_law_709 ?_
      refine am_if_eq 715 dL_law_710 (by decide) (fun hc15 => ?_) (fun hc15 => ?_)
      · replace h := h.1 hc15
        refine am_goto 1101 dL_law_715 (by decide) ?_
        exact am_sub [2, 3, 4, 5, 6] rfl (am_widen (by omega) (by omega) (kk _ _ h))
      · replace h := h.2 hc15
        refine am_iconst (v := 0) dL_law_713 (by decide) ?_
        exact h.elim
  · replace h := h.2 hc12
    refine am_iconst (v := 0) dL_law_696 (by decide) ?_
    exact h.elim
def w_case13 (L0 : Nat) (xs : Nat → Int32) (x4 : Int32) (I : am_MI) (J : am_MJ) (K : am_MI → am_MJ → Prop) : Prop :=
  w_L_sync I J (fun (r3 : Int32) (I1 : am_MI) (J2 : am_MJ) => w_M_sync I1 J2 (fun (r6 : Int32) (I4 : am_MI) (J5 : am_MJ) => w_M_thrown I4 J5 (fun (r9 : Int32) (I7 : am_MI) (J8 : am_MJ) => (r9 = r3 → ((¬ r3 = 0 → (K I7 J8)) ∧ (r3 = 0 → (vp_in (0 : Int32) 1 ∧ (((lg_cmp (J8 45 (0 : Int32).toNatClampNeg) r6.toInt64) = 0 → (K I7 J8)) ∧ (¬ ((lg_cmp (J8 45 (0 : Int32).toNatClampNeg) r6.toInt64) = 0) → (False))))))) ∧ (¬ (r9 = r3) → (False))) (fun _ _ _ => False)) (fun _ _ _ => False)) (fun _ _ _ => False)
set_option maxRecDepth 20000 in
theorem t_case13 {l : Launch} {D : va_G} {aC : Nat → ClassId} {ad : Nat → Nat} (hlt : l.stackTraces = false) {b L0 k n : Nat} (hkn : k + 100 ≤ 601024 ∧ n + 1000 ≤ 7293034) {xs : Nat → Int32} {x4 : Int32} {I : am_MI} {J : am_MJ} {K : am_MI → am_MJ → Prop} (kk : ∀ (I : am_MI) (J : am_MJ), K I J → am l D aC "BubbleBoxLaw" cL_law 8 (some .boolean) false [] (am_GS b L0 xs) room_1 601024 7293034 (k + 1) (n + 6) 1101 [(0, .ref b), (1, .ref (ad 0)), (2, .ref (ad 28)), (3, .ref (ad 45)), (4, .int x4)] [] (am_w ad aC I J) (fun v _ => v = some (.int 1)) (am_lx ad aC (fun _ _ _ => False))) (h : w_case13 L0 xs x4 I J K) : am l D aC "BubbleBoxLaw" cL_law 8 (some .boolean) false [] (am_GS b L0 xs) room_1 601024 7293034 k n 718 [(0, .ref b), (1, .ref (ad 0)), (2, .ref (ad 28)), (3, .ref (ad 45)), (4, .int x4)] [] (am_w ad aC I J) (fun v _ => v = some (.int 1)) (am_lx ad aC (fun _ _ _ => False)) := by
  unfold w_case13 at h
  have hk1 := hkn.1
  have hn1 := hkn.2
  refine am_aload_n 1 dL_law_718 rfl rfl ?_
  refine am_aload_n 3 dL_law_719 rfl rfl ?_
  refine kH_L_sync dL_law_720 (am_tw kw_578 rfl) (Nat.le_of_ble_eq_true rfl) ⟨Nat.le_of_ble_eq_true rfl, Nat.le_of_ble_eq_true rfl⟩ ⟨by show k + 2 ≤ 601024; omega, by show n + 12 ≤ 7293034; omega⟩ ⟨by omega, by omega⟩ hlt h (fun r3 I1 J2 h => ?_)
  refine am_istore (L2 := [(5, .int r3), (0, .ref b), (1, .ref (ad 0)), (2, .ref (ad 28)), (3, .ref (ad 45)), (4, .int x4)]) dL_law_723 (Nat.le_of_ble_eq_true rfl) rfl ?_
  refine am_aload_n 3 dL_law_725 rfl rfl ?_
  refine kV_M_sync dL_law_726 (am_tw kw_893 rfl) (Nat.le_of_ble_eq_true rfl) ⟨Nat.le_of_ble_eq_true rfl, Nat.le_of_ble_eq_true rfl⟩ ⟨by show (k + 1) + 1 ≤ 601024; omega, by show (n + 6) + 6 ≤ 7293034; omega⟩ ⟨by omega, by omega⟩ hlt h (fun r6 I4 J5 h => ?_)
  refine am_istore (L2 := [(6, .int r6), (5, .int r3), (0, .ref b), (1, .ref (ad 0)), (2, .ref (ad 28)), (3, .ref (ad 45)), (4, .int x4)]) dL_law_729 (Nat.le_of_ble_eq_true rfl) rfl ?_
  refine am_aload_n 4 dL_law_731 rfl rfl ?_
  refine kV_M_thrown dL_law_732 (am_tw kw_741 rfl) (Nat.le_of_ble_eq_true rfl) ⟨Nat.le_of_ble_eq_true rfl, Nat.le_of_ble_eq_true rfl⟩ ⟨by show (k + 1) + 1 ≤ 601024; omega, by show (n + 6) + 6 ≤ 7293034; omega⟩ ⟨by omega, by omega⟩ hlt h (fun r9 I7 J8 h => ?_)
  refine am_iload 1 dL_law_735 rfl ?_
  refine am_icmp_eq 742 dL_law_737 (by decide) (fun hc10 => ?_) (fun hc10 => ?_)
  · replace h := h.1 hc10
    refine am_iload 1 dL_law_742 rfl ?_
    refine am_if_ne 759 dL_law_744 (by decide) (fun hc11 => ?_) (fun hc11 => ?_)
    · replace h := h.1 hc11
      refine am_goto 1101 dL_law_759 (by decide) ?_
      exact am_sub [2, 3, 4, 5, 6] rfl (am_widen (by omega) (by omega) (kk _ _ h))
    · replace h := h.2 hc11
      refine am_aload_n 5 dL_law_747 rfl rfl ?_
      refine am_iconst (v := 0) dL_law_748 (by decide) ?_
      obtain ⟨hi12, h⟩ := h
      refine ld_45 hi12 dL_law_749 ?_
      refine am_iload 0 dL_law_750 rfl ?_
      refine am_i2l dL_law_752 ?_
      refine am_lcmp dL_law_753 ?_
      refine am_if_eq 759 dL_law_754 (by decide) (fun hc13 => ?_) (fun hc13 => ?_)
      · replace h := h.1 hc13
        refine am_goto 1101 dL_law_759 (by decide) ?_
        exact am_sub [2, 3, 4, 5, 6] rfl (am_widen (by omega) (by omega) (kk _ _ h))
      · replace h := h.2 hc13
        refine am_iconst (v := 0) dL_law_757 (by decide) ?_
        exact h.elim
  · replace h := h.2 hc10
    refine am_iconst (v := 0) dL_law_740 (by decide) ?_
    exact h.elim
def w_case14 (L0 : Nat) (xs : Nat → Int32) (x4 : Int32) (I : am_MI) (J : am_MJ) (K : am_MI → am_MJ → Prop) : Prop :=
  w_L_free I J (fun (r3 : Int32) (I1 : am_MI) (J2 : am_MJ) => w_M_free I1 J2 (fun (r6 : Int32) (I4 : am_MI) (J5 : am_MJ) => w_M_thrown I4 J5 (fun (r9 : Int32) (I7 : am_MI) (J8 : am_MJ) => (r9 = r3 → ((¬ r3 = 0 → (K I7 J8)) ∧ (r3 = 0 → (vp_in (0 : Int32) 1 ∧ (((lg_cmp (J8 45 (0 : Int32).toNatClampNeg) r6.toInt64) = 0 → (K I7 J8)) ∧ (¬ ((lg_cmp (J8 45 (0 : Int32).toNatClampNeg) r6.toInt64) = 0) → (False))))))) ∧ (¬ (r9 = r3) → (False))) (fun _ _ _ => False)) (fun _ _ _ => False)) (fun _ _ _ => False)
set_option maxRecDepth 20000 in
theorem t_case14 {l : Launch} {D : va_G} {aC : Nat → ClassId} {ad : Nat → Nat} (hlt : l.stackTraces = false) {b L0 k n : Nat} (hkn : k + 100 ≤ 601024 ∧ n + 1000 ≤ 7293034) {xs : Nat → Int32} {x4 : Int32} {I : am_MI} {J : am_MJ} {K : am_MI → am_MJ → Prop} (kk : ∀ (I : am_MI) (J : am_MJ), K I J → am l D aC "BubbleBoxLaw" cL_law 8 (some .boolean) false [] (am_GS b L0 xs) room_1 601024 7293034 (k + 1) (n + 6) 1101 [(0, .ref b), (1, .ref (ad 0)), (2, .ref (ad 28)), (3, .ref (ad 45)), (4, .int x4)] [] (am_w ad aC I J) (fun v _ => v = some (.int 1)) (am_lx ad aC (fun _ _ _ => False))) (h : w_case14 L0 xs x4 I J K) : am l D aC "BubbleBoxLaw" cL_law 8 (some .boolean) false [] (am_GS b L0 xs) room_1 601024 7293034 k n 762 [(0, .ref b), (1, .ref (ad 0)), (2, .ref (ad 28)), (3, .ref (ad 45)), (4, .int x4)] [] (am_w ad aC I J) (fun v _ => v = some (.int 1)) (am_lx ad aC (fun _ _ _ => False)) := by
  unfold w_case14 at h
  have hk1 := hkn.1
  have hn1 := hkn.2
  refine am_aload_n 1 dL_law_762 rfl rfl ?_
  refine am_aload_n 3 dL_law_763 rfl rfl ?_
  refine kH_L_free dL_law_764 (am_tw kw_585 rfl) (Nat.le_of_ble_eq_true rfl) ⟨Nat.le_of_ble_eq_true rfl, Nat.le_of_ble_eq_true rfl⟩ ⟨by show k + 2 ≤ 601024; omega, by show n + 12 ≤ 7293034; omega⟩ ⟨by omega, by omega⟩ hlt h (fun r3 I1 J2 h => ?_)
  refine am_istore (L2 := [(5, .int r3), (0, .ref b), (1, .ref (ad 0)), (2, .ref (ad 28)), (3, .ref (ad 45)), (4, .int x4)]) dL_law_767 (Nat.le_of_ble_eq_true rfl) rfl ?_
  refine am_aload_n 3 dL_law_769 rfl rfl ?_
  refine kV_M_free dL_law_770 (am_tw kw_897 rfl) (Nat.le_of_ble_eq_true rfl) ⟨Nat.le_of_ble_eq_true rfl, Nat.le_of_ble_eq_true rfl⟩ ⟨by show (k + 1) + 1 ≤ 601024; omega, by show (n + 6) + 6 ≤ 7293034; omega⟩ ⟨by omega, by omega⟩ hlt h (fun r6 I4 J5 h => ?_)
  refine am_istore (L2 := [(6, .int r6), (5, .int r3), (0, .ref b), (1, .ref (ad 0)), (2, .ref (ad 28)), (3, .ref (ad 45)), (4, .int x4)]) dL_law_773 (Nat.le_of_ble_eq_true rfl) rfl ?_
  refine am_aload_n 4 dL_law_775 rfl rfl ?_
  refine kV_M_thrown dL_law_776 (am_tw kw_741 rfl) (Nat.le_of_ble_eq_true rfl) ⟨Nat.le_of_ble_eq_true rfl, Nat.le_of_ble_eq_true rfl⟩ ⟨by show (k + 1) + 1 ≤ 601024; omega, by show (n + 6) + 6 ≤ 7293034; omega⟩ ⟨by omega, by omega⟩ hlt h (fun r9 I7 J8 h => ?_)
  refine am_iload 1 dL_law_779 rfl ?_
  refine am_icmp_eq 786 dL_law_781 (by decide) (fun hc10 => ?_) (fun hc10 => ?_)
  · replace h := h.1 hc10
    refine am_iload 1 dL_law_786 rfl ?_
    refine am_if_ne 803 dL_law_788 (by decide) (fun hc11 => ?_) (fun hc11 => ?_)
    · replace h := h.1 hc11
      refine am_goto 1101 dL_law_803 (by decide) ?_
      exact am_sub [2, 3, 4, 5, 6] rfl (am_widen (by omega) (by omega) (kk _ _ h))
    · replace h := h.2 hc11
      refine am_aload_n 5 dL_law_791 rfl rfl ?_
      refine am_iconst (v := 0) dL_law_792 (by decide) ?_
      obtain ⟨hi12, h⟩ := h
      refine ld_45 hi12 dL_law_793 ?_
      refine am_iload 0 dL_law_794 rfl ?_
      refine am_i2l dL_law_796 ?_
      refine am_lcmp dL_law_797 ?_
      refine am_if_eq 803 dL_law_798 (by decide) (fun hc13 => ?_) (fun hc13 => ?_)
      · replace h := h.1 hc13
        refine am_goto 1101 dL_law_803 (by decide) ?_
        exact am_sub [2, 3, 4, 5, 6] rfl (am_widen (by omega) (by omega) (kk _ _ h))
      · replace h := h.2 hc13
        refine am_iconst (v := 0) dL_law_801 (by decide) ?_
        exact h.elim
  · replace h := h.2 hc10
    refine am_iconst (v := 0) dL_law_784 (by decide) ?_
    exact h.elim
def w_case15 (L0 : Nat) (xs : Nat → Int32) (x4 : Int32) (I : am_MI) (J : am_MJ) (K : am_MI → am_MJ → Prop) : Prop :=
  vp_in (x4 + (1 : Int32)) L0 ∧ (vp_in (x4 + (2 : Int32)) L0 ∧ (w_L_pageOf (xs (x4 + (1 : Int32)).toNatClampNeg) (xs (x4 + (2 : Int32)).toNatClampNeg) I J (fun (r5 : Int32) (I3 : am_MI) (J4 : am_MJ) => vp_in (x4 + (1 : Int32)) L0 ∧ (vp_in (x4 + (2 : Int32)) L0 ∧ (w_M_pageOf (xs (x4 + (1 : Int32)).toNatClampNeg) (xs (x4 + (2 : Int32)).toNatClampNeg) I3 J4 (fun (r10 : Int32) (I8 : am_MI) (J9 : am_MJ) => w_M_thrown I8 J9 (fun (r13 : Int32) (I11 : am_MI) (J12 : am_MJ) => (r13 = r5 → ((¬ r5 = 0 → (K I11 J12)) ∧ (r5 = 0 → (vp_in (0 : Int32) 1 ∧ (((lg_cmp (J12 45 (0 : Int32).toNatClampNeg) r10.toInt64) = 0 → (K I11 J12)) ∧ (¬ ((lg_cmp (J12 45 (0 : Int32).toNatClampNeg) r10.toInt64) = 0) → (False))))))) ∧ (¬ (r13 = r5) → (False))) (fun _ _ _ => False)) (fun _ _ _ => False)))) (fun _ _ _ => False)))
set_option maxRecDepth 20000 in
theorem t_case15 {l : Launch} {D : va_G} {aC : Nat → ClassId} {ad : Nat → Nat} (hlt : l.stackTraces = false) {b L0 k n : Nat} (hkn : k + 100 ≤ 601024 ∧ n + 1000 ≤ 7293034) {xs : Nat → Int32} {x4 : Int32} {I : am_MI} {J : am_MJ} {K : am_MI → am_MJ → Prop} (kk : ∀ (I : am_MI) (J : am_MJ), K I J → am l D aC "BubbleBoxLaw" cL_law 8 (some .boolean) false [] (am_GS b L0 xs) room_1 601024 7293034 (k + 1) (n + 6) 1101 [(0, .ref b), (1, .ref (ad 0)), (2, .ref (ad 28)), (3, .ref (ad 45)), (4, .int x4)] [] (am_w ad aC I J) (fun v _ => v = some (.int 1)) (am_lx ad aC (fun _ _ _ => False))) (h : w_case15 L0 xs x4 I J K) : am l D aC "BubbleBoxLaw" cL_law 8 (some .boolean) false [] (am_GS b L0 xs) room_1 601024 7293034 k n 806 [(0, .ref b), (1, .ref (ad 0)), (2, .ref (ad 28)), (3, .ref (ad 45)), (4, .int x4)] [] (am_w ad aC I J) (fun v _ => v = some (.int 1)) (am_lx ad aC (fun _ _ _ => False)) := by
  unfold w_case15 at h
  have hk1 := hkn.1
  have hn1 := hkn.2
  refine am_aload_n 1 dL_law_806 rfl rfl ?_
  refine am_aload_n 0 dL_law_807 rfl rfl ?_
  refine am_iload 4 dL_law_808 rfl ?_
  refine am_iconst (v := 1) dL_law_810 (by decide) ?_
  refine am_iadd dL_law_811 ?_
  obtain ⟨hi1, h⟩ := h
  refine am_sld hi1 dL_law_812 ?_
  refine am_aload_n 0 dL_law_813 rfl rfl ?_
  refine am_iload 4 dL_law_814 rfl ?_
  refine am_iconst (v := 2) dL_law_816 (by decide) ?_
  refine am_iadd dL_law_817 ?_
  obtain ⟨hi2, h⟩ := h
  refine am_sld hi2 dL_law_818 ?_
  refine am_aload_n 3 dL_law_819 rfl rfl ?_
  refine kH_L_pageOf dL_law_820 (am_tw kw_596 rfl) (Nat.le_of_ble_eq_true rfl) ⟨Nat.le_of_ble_eq_true rfl, Nat.le_of_ble_eq_true rfl⟩ ⟨by show k + 2 ≤ 601024; omega, by show n + 12 ≤ 7293034; omega⟩ ⟨by omega, by omega⟩ hlt h (fun r5 I3 J4 h => ?_)
  refine am_istore (L2 := [(5, .int r5), (0, .ref b), (1, .ref (ad 0)), (2, .ref (ad 28)), (3, .ref (ad 45)), (4, .int x4)]) dL_law_823 (Nat.le_of_ble_eq_true rfl) rfl ?_
  refine am_aload_n 3 dL_law_825 rfl rfl ?_
  refine am_aload_n 1 dL_law_826 rfl rfl ?_
  refine am_iload 5 dL_law_827 rfl ?_
  refine am_iconst (v := 1) dL_law_829 (by decide) ?_
  refine am_iadd dL_law_830 ?_
  obtain ⟨hi6, h⟩ := h
  refine am_sld hi6 dL_law_831 ?_
  refine am_aload_n 1 dL_law_832 rfl rfl ?_
  refine am_iload 5 dL_law_833 rfl ?_
  refine am_iconst (v := 2) dL_law_835 (by decide) ?_
  refine am_iadd dL_law_836 ?_
  obtain ⟨hi7, h⟩ := h
  refine am_sld hi7 dL_law_837 ?_
  refine kV_M_pageOf dL_law_838 (am_tw kw_901 rfl) (Nat.le_of_ble_eq_true rfl) ⟨Nat.le_of_ble_eq_true rfl, Nat.le_of_ble_eq_true rfl⟩ ⟨by show (k + 1) + 1 ≤ 601024; omega, by show (n + 6) + 6 ≤ 7293034; omega⟩ ⟨by omega, by omega⟩ hlt h (fun r10 I8 J9 h => ?_)
  refine am_istore (L2 := [(6, .int r10), (5, .int r5), (0, .ref b), (1, .ref (ad 0)), (2, .ref (ad 28)), (3, .ref (ad 45)), (4, .int x4)]) dL_law_841 (Nat.le_of_ble_eq_true rfl) rfl ?_
  refine am_aload_n 4 dL_law_843 rfl rfl ?_
  refine kV_M_thrown dL_law_844 (am_tw kw_741 rfl) (Nat.le_of_ble_eq_true rfl) ⟨Nat.le_of_ble_eq_true rfl, Nat.le_of_ble_eq_true rfl⟩ ⟨by show (k + 1) + 1 ≤ 601024; omega, by show (n + 6) + 6 ≤ 7293034; omega⟩ ⟨by omega, by omega⟩ hlt h (fun r13 I11 J12 h => ?_)
  refine am_iload 1 dL_law_847 rfl ?_
  refine am_icmp_eq 854 dL_law_849 (by decide) (fun hc14 => ?_) (fun hc14 => ?_)
  · replace h := h.1 hc14
    refine am_iload 1 dL_law_854 rfl ?_
    refine am_if_ne 871 dL_law_856 (by decide) (fun hc15 => ?_) (fun hc15 => ?_)
    · replace h := h.1 hc15
      refine am_goto 1101 dL_law_871 (by decide) ?_
      exact am_sub [2, 3, 4, 5, 6] rfl (am_widen (by omega) (by omega) (kk _ _ h))
    · replace h := h.2 hc15
      refine am_aload_n 5 dL_law_859 rfl rfl ?_
      refine am_iconst (v := 0) dL_law_860 (by decide) ?_
      obtain ⟨hi16, h⟩ := h
      refine ld_45 hi16 dL_law_861 ?_
      refine am_iload 0 dL_law_862 rfl ?_
      refine am_i2l dL_law_864 ?_
      refine am_lcmp dL_law_865 ?_
      refine am_if_eq 871 dL_law_866 (by decide) (fun hc17 => ?_) (fun hc17 => ?_)
      · replace h := h.1 hc17
        refine am_goto 1101 dL_law_871 (by decide) ?_
        exact am_sub [2, 3, 4, 5, 6] rfl (am_widen (by omega) (by omega) (kk _ _ h))
      · replace h := h.2 hc17
        refine am_iconst (v := 0) dL_law_869 (by decide) ?_
        exact h.elim
  · replace h := h.2 hc14
    refine am_iconst (v := 0) dL_law_852 (by decide) ?_
    exact h.elim
def w_case16 (L0 : Nat) (xs : Nat → Int32) (x4 : Int32) (I : am_MI) (J : am_MJ) (K : am_MI → am_MJ → Prop) : Prop :=
  vp_in (x4 + (1 : Int32)) L0 ∧ (vp_in (x4 + (2 : Int32)) L0 ∧ (((xs (x4 + (2 : Int32)).toNatClampNeg) = 0 → (vp_in (x4 + (3 : Int32)) L0 ∧ (vp_in (x4 + (4 : Int32)) L0 ∧ (w_L_queue (xs (x4 + (1 : Int32)).toNatClampNeg) (0 : Int32) ((((xs (x4 + (3 : Int32)).toNatClampNeg).toInt64) <<< ((32 : Int32).toInt64 &&& 63)) ||| (((xs (x4 + (4 : Int32)).toNatClampNeg).toInt64) &&& (4294967295 : Int64))) I J (fun (r8 : Int32) (I6 : am_MI) (J7 : am_MJ) => vp_in (x4 + (1 : Int32)) L0 ∧ (vp_in (x4 + (2 : Int32)) L0 ∧ (((xs (x4 + (2 : Int32)).toNatClampNeg) = 0 → (vp_in (x4 + (3 : Int32)) L0 ∧ (vp_in (x4 + (4 : Int32)) L0 ∧ (w_M_queue (xs (x4 + (1 : Int32)).toNatClampNeg) (0 : Int32) ((((xs (x4 + (3 : Int32)).toNatClampNeg).toInt64) <<< ((32 : Int32).toInt64 &&& 63)) ||| (((xs (x4 + (4 : Int32)).toNatClampNeg).toInt64) &&& (4294967295 : Int64))) I6 J7 (fun (r16 : Int32) (I14 : am_MI) (J15 : am_MJ) => w_M_thrown I14 J15 (fun (r19 : Int32) (I17 : am_MI) (J18 : am_MJ) => (r19 = r8 → ((¬ r8 = 0 → (K I17 J18)) ∧ (r8 = 0 → (vp_in (0 : Int32) 1 ∧ (((lg_cmp (J18 45 (0 : Int32).toNatClampNeg) r16.toInt64) = 0 → (K I17 J18)) ∧ (¬ ((lg_cmp (J18 45 (0 : Int32).toNatClampNeg) r16.toInt64) = 0) → (False))))))) ∧ (¬ (r19 = r8) → (False))) (fun _ _ _ => False)) (fun _ _ _ => False))))) ∧ (¬ ((xs (x4 + (2 : Int32)).toNatClampNeg) = 0) → (vp_in (x4 + (3 : Int32)) L0 ∧ (vp_in (x4 + (4 : Int32)) L0 ∧ (w_M_queue (xs (x4 + (1 : Int32)).toNatClampNeg) (1 : Int32) ((((xs (x4 + (3 : Int32)).toNatClampNeg).toInt64) <<< ((32 : Int32).toInt64 &&& 63)) ||| (((xs (x4 + (4 : Int32)).toNatClampNeg).toInt64) &&& (4294967295 : Int64))) I6 J7 (fun (r28 : Int32) (I26 : am_MI) (J27 : am_MJ) => w_M_thrown I26 J27 (fun (r31 : Int32) (I29 : am_MI) (J30 : am_MJ) => (r31 = r8 → ((¬ r8 = 0 → (K I29 J30)) ∧ (r8 = 0 → (vp_in (0 : Int32) 1 ∧ (((lg_cmp (J30 45 (0 : Int32).toNatClampNeg) r28.toInt64) = 0 → (K I29 J30)) ∧ (¬ ((lg_cmp (J30 45 (0 : Int32).toNatClampNeg) r28.toInt64) = 0) → (False))))))) ∧ (¬ (r31 = r8) → (False))) (fun _ _ _ => False)) (fun _ _ _ => False)))))))) (fun _ _ _ => False))))) ∧ (¬ ((xs (x4 + (2 : Int32)).toNatClampNeg) = 0) → (vp_in (x4 + (3 : Int32)) L0 ∧ (vp_in (x4 + (4 : Int32)) L0 ∧ (w_L_queue (xs (x4 + (1 : Int32)).toNatClampNeg) (1 : Int32) ((((xs (x4 + (3 : Int32)).toNatClampNeg).toInt64) <<< ((32 : Int32).toInt64 &&& 63)) ||| (((xs (x4 + (4 : Int32)).toNatClampNeg).toInt64) &&& (4294967295 : Int64))) I J (fun (r40 : Int32) (I38 : am_MI) (J39 : am_MJ) => vp_in (x4 + (1 : Int32)) L0 ∧ (vp_in (x4 + (2 : Int32)) L0 ∧ (((xs (x4 + (2 : Int32)).toNatClampNeg) = 0 → (vp_in (x4 + (3 : Int32)) L0 ∧ (vp_in (x4 + (4 : Int32)) L0 ∧ (w_M_queue (xs (x4 + (1 : Int32)).toNatClampNeg) (0 : Int32) ((((xs (x4 + (3 : Int32)).toNatClampNeg).toInt64) <<< ((32 : Int32).toInt64 &&& 63)) ||| (((xs (x4 + (4 : Int32)).toNatClampNeg).toInt64) &&& (4294967295 : Int64))) I38 J39 (fun (r48 : Int32) (I46 : am_MI) (J47 : am_MJ) => w_M_thrown I46 J47 (fun (r51 : Int32) (I49 : am_MI) (J50 : am_MJ) => (r51 = r40 → ((¬ r40 = 0 → (K I49 J50)) ∧ (r40 = 0 → (vp_in (0 : Int32) 1 ∧ (((lg_cmp (J50 45 (0 : Int32).toNatClampNeg) r48.toInt64) = 0 → (K I49 J50)) ∧ (¬ ((lg_cmp (J50 45 (0 : Int32).toNatClampNeg) r48.toInt64) = 0) → (False))))))) ∧ (¬ (r51 = r40) → (False))) (fun _ _ _ => False)) (fun _ _ _ => False))))) ∧ (¬ ((xs (x4 + (2 : Int32)).toNatClampNeg) = 0) → (vp_in (x4 + (3 : Int32)) L0 ∧ (vp_in (x4 + (4 : Int32)) L0 ∧ (w_M_queue (xs (x4 + (1 : Int32)).toNatClampNeg) (1 : Int32) ((((xs (x4 + (3 : Int32)).toNatClampNeg).toInt64) <<< ((32 : Int32).toInt64 &&& 63)) ||| (((xs (x4 + (4 : Int32)).toNatClampNeg).toInt64) &&& (4294967295 : Int64))) I38 J39 (fun (r60 : Int32) (I58 : am_MI) (J59 : am_MJ) => w_M_thrown I58 J59 (fun (r63 : Int32) (I61 : am_MI) (J62 : am_MJ) => (r63 = r40 → ((¬ r40 = 0 → (K I61 J62)) ∧ (r40 = 0 → (vp_in (0 : Int32) 1 ∧ (((lg_cmp (J62 45 (0 : Int32).toNatClampNeg) r60.toInt64) = 0 → (K I61 J62)) ∧ (¬ ((lg_cmp (J62 45 (0 : Int32).toNatClampNeg) r60.toInt64) = 0) → (False))))))) ∧ (¬ (r63 = r40) → (False))) (fun _ _ _ => False)) (fun _ _ _ => False)))))))) (fun _ _ _ => False)))))))
set_option maxRecDepth 20000 in
theorem t_case16 {l : Launch} {D : va_G} {aC : Nat → ClassId} {ad : Nat → Nat} (hlt : l.stackTraces = false) {b L0 k n : Nat} (hkn : k + 100 ≤ 601024 ∧ n + 1000 ≤ 7293034) {xs : Nat → Int32} {x4 : Int32} {I : am_MI} {J : am_MJ} {K : am_MI → am_MJ → Prop} (kk : ∀ (I : am_MI) (J : am_MJ), K I J → am l D aC "BubbleBoxLaw" cL_law 8 (some .boolean) false [] (am_GS b L0 xs) room_1 601024 7293034 (k + 1) (n + 6) 1101 [(0, .ref b), (1, .ref (ad 0)), (2, .ref (ad 28)), (3, .ref (ad 45)), (4, .int x4)] [] (am_w ad aC I J) (fun v _ => v = some (.int 1)) (am_lx ad aC (fun _ _ _ => False))) (h : w_case16 L0 xs x4 I J K) : am l D aC "BubbleBoxLaw" cL_law 8 (some .boolean) false [] (am_GS b L0 xs) room_1 601024 7293034 k n 874 [(0, .ref b), (1, .ref (ad 0)), (2, .ref (ad 28)), (3, .ref (ad 45)), (4, .int x4)] [] (am_w ad aC I J) (fun v _ => v = some (.int 1)) (am_lx ad aC (fun _ _ _ => False)) := by
  unfold w_case16 at h
  have hk1 := hkn.1
  have hn1 := hkn.2
  refine am_aload_n 1 dL_law_874 rfl rfl ?_
  refine am_aload_n 0 dL_law_875 rfl rfl ?_
  refine am_iload 4 dL_law_876 rfl ?_
  refine am_iconst (v := 1) dL_law_878 (by decide) ?_
  refine am_iadd dL_law_879 ?_
  obtain ⟨hi1, h⟩ := h
  refine am_sld hi1 dL_law_880 ?_
  refine am_aload_n 0 dL_law_881 rfl rfl ?_
  refine am_iload 4 dL_law_882 rfl ?_
  refine am_iconst (v := 2) dL_law_884 (by decide) ?_
  refine am_iadd dL_law_885 ?_
  obtain ⟨hi2, h⟩ := h
  refine am_sld hi2 dL_law_886 ?_
  refine am_if_eq 894 dL_law_887 (by decide) (fun hc3 => ?_) (fun hc3 => ?_)
  · replace h := h.1 hc3
    refine am_iconst (v := 0) dL_law_894 (by decide) ?_
    refine am_aload_n 0 dL_law_895 rfl rfl ?_
    refine am_iload 4 dL_law_896 rfl ?_
    refine am_iconst (v := 3) dL_law_898 (by decide) ?_
    refine am_iadd dL_law_899 ?_
    obtain ⟨hi4, h⟩ := h
    refine am_sld hi4 dL_law_900 ?_
    refine am_i2l dL_law_901 ?_
    refine am_bipush (v := 32) dL_law_902 (by decide) ?_
    refine am_lshl dL_law_904 ?_
    refine am_aload_n 0 dL_law_905 rfl rfl ?_
    refine am_iload 4 dL_law_906 rfl ?_
    refine am_iconst (v := 4) dL_law_908 (by decide) ?_
    refine am_iadd dL_law_909 ?_
    obtain ⟨hi5, h⟩ := h
    refine am_sld hi5 dL_law_910 ?_
    refine am_i2l dL_law_911 ?_
    refine am_ldc2 (v := 4294967295) dL_law_912 (am_tw kw_917 rfl) ?_
    refine am_land dL_law_915 ?_
    refine am_lor dL_law_916 ?_
    refine am_aload_n 3 dL_law_917 rfl rfl ?_
    refine kH_L_queue dL_law_918 (am_tw kw_603 rfl) (Nat.le_of_ble_eq_true rfl) ⟨Nat.le_of_ble_eq_true rfl, Nat.le_of_ble_eq_true rfl⟩ ⟨by show k + 2 ≤ 601024; omega, by show n + 12 ≤ 7293034; omega⟩ ⟨by omega, by omega⟩ hlt h (fun r8 I6 J7 h => ?_)
    refine am_istore (L2 := [(5, .int r8), (0, .ref b), (1, .ref (ad 0)), (2, .ref (ad 28)), (3, .ref (ad 45)), (4, .int x4)]) dL_law_921 (Nat.le_of_ble_eq_true rfl) rfl ?_
    refine am_aload_n 3 dL_law_923 rfl rfl ?_
    refine am_aload_n 1 dL_law_924 rfl rfl ?_
    refine am_iload 5 dL_law_925 rfl ?_
    refine am_iconst (v := 1) dL_law_927 (by decide) ?_
    refine am_iadd dL_law_928 ?_
    obtain ⟨hi9, h⟩ := h
    refine am_sld hi9 dL_law_929 ?_
    refine am_aload_n 1 dL_law_930 rfl rfl ?_
    refine am_iload 5 dL_law_931 rfl ?_
    refine am_iconst (v := 2) dL_law_933 (by decide) ?_
    refine am_iadd dL_law_934 ?_
    obtain ⟨hi10, h⟩ := h
    refine am_sld hi10 dL_law_935 ?_
    refine am_if_eq 943 dL_law_936 (by decide) (fun hc11 => ?_) (fun hc11 => ?_)
    · replace h := h.1 hc11
      refine am_iconst (v := 0) dL_law_943 (by decide) ?_
      refine am_aload_n 1 dL_law_944 rfl rfl ?_
      refine am_iload 5 dL_law_945 rfl ?_
      refine am_iconst (v := 3) dL_law_947 (by decide) ?_
      refine am_iadd dL_law_948 ?_
      obtain ⟨hi12, h⟩ := h
      refine am_sld hi12 dL_law_949 ?_
      refine am_i2l dL_law_950 ?_
      refine am_bipush (v := 32) dL_law_951 (by decide) ?_
      refine am_lshl dL_law_953 ?_
      refine am_aload_n 1 dL_law_954 rfl rfl ?_
      refine am_iload 5 dL_law_955 rfl ?_
      refine am_iconst (v := 4) dL_law_957 (by decide) ?_
      refine am_iadd dL_law_958 ?_
      obtain ⟨hi13, h⟩ := h
      refine am_sld hi13 dL_law_959 ?_
      refine am_i2l dL_law_960 ?_
      refine am_ldc2 (v := 4294967295) dL_law_961 (am_tw kw_917 rfl) ?_
      refine am_land dL_law_964 ?_
      refine am_lor dL_law_965 ?_
      refine kV_M_queue dL_law_966 (am_tw kw_905 rfl) (Nat.le_of_ble_eq_true rfl) ⟨Nat.le_of_ble_eq_true rfl, Nat.le_of_ble_eq_true rfl⟩ ⟨by show (k + 1) + 1 ≤ 601024; omega, by show (n + 6) + 6 ≤ 7293034; omega⟩ ⟨by omega, by omega⟩ hlt h (fun r16 I14 J15 h => ?_)
      refine am_istore (L2 := [(6, .int r16), (5, .int r8), (0, .ref b), (1, .ref (ad 0)), (2, .ref (ad 28)), (3, .ref (ad 45)), (4, .int x4)]) dL_law_969 (Nat.le_of_ble_eq_true rfl) rfl ?_
      refine am_aload_n 4 dL_law_971 rfl rfl ?_
      refine kV_M_thrown dL_law_972 (am_tw kw_741 rfl) (Nat.le_of_ble_eq_true rfl) ⟨Nat.le_of_ble_eq_true rfl, Nat.le_of_ble_eq_true rfl⟩ ⟨by show (k + 1) + 1 ≤ 601024; omega, by show (n + 6) + 6 ≤ 7293034; omega⟩ ⟨by omega, by omega⟩ hlt h (fun r19 I17 J18 h => ?_)
      refine am_iload 1 dL_law_975 rfl ?_
      refine am_icmp_eq 982 dL_law_977 (by decide) (fun hc20 => ?_) (fun hc20 => ?_)
      · replace h := h.1 hc20
        refine am_iload 1 dL_law_982 rfl ?_
        refine am_if_ne 999 dL_law_984 (by decide) (fun hc21 => ?_) (fun hc21 => ?_)
        · replace h := h.1 hc21
          refine am_goto 1101 dL_law_999 (by decide) ?_
          exact am_sub [2, 3, 4, 5, 6] rfl (am_widen (by omega) (by omega) (kk _ _ h))
        · replace h := h.2 hc21
          refine am_aload_n 5 dL_law_987 rfl rfl ?_
          refine am_iconst (v := 0) dL_law_988 (by decide) ?_
          obtain ⟨hi22, h⟩ := h
          refine ld_45 hi22 dL_law_989 ?_
          refine am_iload 0 dL_law_990 rfl ?_
          refine am_i2l dL_law_992 ?_
          refine am_lcmp dL_law_993 ?_
          refine am_if_eq 999 dL_law_994 (by decide) (fun hc23 => ?_) (fun hc23 => ?_)
          · replace h := h.1 hc23
            refine am_goto 1101 dL_law_999 (by decide) ?_
            exact am_sub [2, 3, 4, 5, 6] rfl (am_widen (by omega) (by omega) (kk _ _ h))
          · replace h := h.2 hc23
            refine am_iconst (v := 0) dL_law_997 (by decide) ?_
            exact h.elim
      · replace h := h.2 hc20
        refine am_iconst (v := 0) dL_law_980 (by decide) ?_
        exact h.elim
    · replace h := h.2 hc11
      refine am_iconst (v := 1) dL_law_939 (by decide) ?_
      refine am_goto 944 dL_law_940 (by decide) ?_
      refine am_aload_n 1 dL_law_944 rfl rfl ?_
      refine am_iload 5 dL_law_945 rfl ?_
      refine am_iconst (v := 3) dL_law_947 (by decide) ?_
      refine am_iadd dL_law_948 ?_
      obtain ⟨hi24, h⟩ := h
      refine am_sld hi24 dL_law_949 ?_
      refine am_i2l dL_law_950 ?_
      refine am_bipush (v := 32) dL_law_951 (by decide) ?_
      refine am_lshl dL_law_953 ?_
      refine am_aload_n 1 dL_law_954 rfl rfl ?_
      refine am_iload 5 dL_law_955 rfl ?_
      refine am_iconst (v := 4) dL_law_957 (by decide) ?_
      refine am_iadd dL_law_958 ?_
      obtain ⟨hi25, h⟩ := h
      refine am_sld hi25 dL_law_959 ?_
      refine am_i2l dL_law_960 ?_
      refine am_ldc2 (v := 4294967295) dL_law_961 (am_tw kw_917 rfl) ?_
      refine am_land dL_law_964 ?_
      refine am_lor dL_law_965 ?_
      refine kV_M_queue dL_law_966 (am_tw kw_905 rfl) (Nat.le_of_ble_eq_true rfl) ⟨Nat.le_of_ble_eq_true rfl, Nat.le_of_ble_eq_true rfl⟩ ⟨by show (k + 1) + 1 ≤ 601024; omega, by show (n + 6) + 6 ≤ 7293034; omega⟩ ⟨by omega, by omega⟩ hlt h (fun r28 I26 J27 h => ?_)
      refine am_istore (L2 := [(6, .int r28), (5, .int r8), (0, .ref b), (1, .ref (ad 0)), (2, .ref (ad 28)), (3, .ref (ad 45)), (4, .int x4)]) dL_law_969 (Nat.le_of_ble_eq_true rfl) rfl ?_
      refine am_aload_n 4 dL_law_971 rfl rfl ?_
      refine kV_M_thrown dL_law_972 (am_tw kw_741 rfl) (Nat.le_of_ble_eq_true rfl) ⟨Nat.le_of_ble_eq_true rfl, Nat.le_of_ble_eq_true rfl⟩ ⟨by show (k + 1) + 1 ≤ 601024; omega, by show (n + 6) + 6 ≤ 7293034; omega⟩ ⟨by omega, by omega⟩ hlt h (fun r31 I29 J30 h => ?_)
      refine am_iload 1 dL_law_975 rfl ?_
      refine am_icmp_eq 982 dL_law_977 (by decide) (fun hc32 => ?_) (fun hc32 => ?_)
      · replace h := h.1 hc32
        refine am_iload 1 dL_law_982 rfl ?_
        refine am_if_ne 999 dL_law_984 (by decide) (fun hc33 => ?_) (fun hc33 => ?_)
        · replace h := h.1 hc33
          refine am_goto 1101 dL_law_999 (by decide) ?_
          exact am_sub [2, 3, 4, 5, 6] rfl (am_widen (by omega) (by omega) (kk _ _ h))
        · replace h := h.2 hc33
          refine am_aload_n 5 dL_law_987 rfl rfl ?_
          refine am_iconst (v := 0) dL_law_988 (by decide) ?_
          obtain ⟨hi34, h⟩ := h
          refine ld_45 hi34 dL_law_989 ?_
          refine am_iload 0 dL_law_990 rfl ?_
          refine am_i2l dL_law_992 ?_
          refine am_lcmp dL_law_993 ?_
          refine am_if_eq 999 dL_law_994 (by decide) (fun hc35 => ?_) (fun hc35 => ?_)
          · replace h := h.1 hc35
            refine am_goto 1101 dL_law_999 (by decide) ?_
            exact am_sub [2, 3, 4, 5, 6] rfl (am_widen (by omega) (by omega) (kk _ _ h))
          · replace h := h.2 hc35
            refine am_iconst (v := 0) dL_law_997 (by decide) ?_
            exact h.elim
      · replace h := h.2 hc32
        refine am_iconst (v := 0) dL_law_980 (by decide) ?_
        exact h.elim
  · replace h := h.2 hc3
    refine am_iconst (v := 1) dL_law_890 (by decide) ?_
    refine am_goto 895 dL_law_891 (by decide) ?_
    refine am_aload_n 0 dL_law_895 rfl rfl ?_
    refine am_iload 4 dL_law_896 rfl ?_
    refine am_iconst (v := 3) dL_law_898 (by decide) ?_
    refine am_iadd dL_law_899 ?_
    obtain ⟨hi36, h⟩ := h
    refine am_sld hi36 dL_law_900 ?_
    refine am_i2l dL_law_901 ?_
    refine am_bipush (v := 32) dL_law_902 (by decide) ?_
    refine am_lshl dL_law_904 ?_
    refine am_aload_n 0 dL_law_905 rfl rfl ?_
    refine am_iload 4 dL_law_906 rfl ?_
    refine am_iconst (v := 4) dL_law_908 (by decide) ?_
    refine am_iadd dL_law_909 ?_
    obtain ⟨hi37, h⟩ := h
    refine am_sld hi37 dL_law_910 ?_
    refine am_i2l dL_law_911 ?_
    refine am_ldc2 (v := 4294967295) dL_law_912 (am_tw kw_917 rfl) ?_
    refine am_land dL_law_915 ?_
    refine am_lor dL_law_916 ?_
    refine am_aload_n 3 dL_law_917 rfl rfl ?_
    refine kH_L_queue dL_law_918 (am_tw kw_603 rfl) (Nat.le_of_ble_eq_true rfl) ⟨Nat.le_of_ble_eq_true rfl, Nat.le_of_ble_eq_true rfl⟩ ⟨by show k + 2 ≤ 601024; omega, by show n + 12 ≤ 7293034; omega⟩ ⟨by omega, by omega⟩ hlt h (fun r40 I38 J39 h => ?_)
    refine am_istore (L2 := [(5, .int r40), (0, .ref b), (1, .ref (ad 0)), (2, .ref (ad 28)), (3, .ref (ad 45)), (4, .int x4)]) dL_law_921 (Nat.le_of_ble_eq_true rfl) rfl ?_
    refine am_aload_n 3 dL_law_923 rfl rfl ?_
    refine am_aload_n 1 dL_law_924 rfl rfl ?_
    refine am_iload 5 dL_law_925 rfl ?_
    refine am_iconst (v := 1) dL_law_927 (by decide) ?_
    refine am_iadd dL_law_928 ?_
    obtain ⟨hi41, h⟩ := h
    refine am_sld hi41 dL_law_929 ?_
    refine am_aload_n 1 dL_law_930 rfl rfl ?_
    refine am_iload 5 dL_law_931 rfl ?_
    refine am_iconst (v := 2) dL_law_933 (by decide) ?_
    refine am_iadd dL_law_934 ?_
    obtain ⟨hi42, h⟩ := h
    refine am_sld hi42 dL_law_935 ?_
    refine am_if_eq 943 dL_law_936 (by decide) (fun hc43 => ?_) (fun hc43 => ?_)
    · replace h := h.1 hc43
      refine am_iconst (v := 0) dL_law_943 (by decide) ?_
      refine am_aload_n 1 dL_law_944 rfl rfl ?_
      refine am_iload 5 dL_law_945 rfl ?_
      refine am_iconst (v := 3) dL_law_947 (by decide) ?_
      refine am_iadd dL_law_948 ?_
      obtain ⟨hi44, h⟩ := h
      refine am_sld hi44 dL_law_949 ?_
      refine am_i2l dL_law_950 ?_
      refine am_bipush (v := 32) dL_law_951 (by decide) ?_
      refine am_lshl dL_law_953 ?_
      refine am_aload_n 1 dL_law_954 rfl rfl ?_
      refine am_iload 5 dL_law_955 rfl ?_
      refine am_iconst (v := 4) dL_law_957 (by decide) ?_
      refine am_iadd dL_law_958 ?_
      obtain ⟨hi45, h⟩ := h
      refine am_sld hi45 dL_law_959 ?_
      refine am_i2l dL_law_960 ?_
      refine am_ldc2 (v := 4294967295) dL_law_961 (am_tw kw_917 rfl) ?_
      refine am_land dL_law_964 ?_
      refine am_lor dL_law_965 ?_
      refine kV_M_queue dL_law_966 (am_tw kw_905 rfl) (Nat.le_of_ble_eq_true rfl) ⟨Nat.le_of_ble_eq_true rfl, Nat.le_of_ble_eq_true rfl⟩ ⟨by show (k + 1) + 1 ≤ 601024; omega, by show (n + 6) + 6 ≤ 7293034; omega⟩ ⟨by omega, by omega⟩ hlt h (fun r48 I46 J47 h => ?_)
      refine am_istore (L2 := [(6, .int r48), (5, .int r40), (0, .ref b), (1, .ref (ad 0)), (2, .ref (ad 28)), (3, .ref (ad 45)), (4, .int x4)]) dL_law_969 (Nat.le_of_ble_eq_true rfl) rfl ?_
      refine am_aload_n 4 dL_law_971 rfl rfl ?_
      refine kV_M_thrown dL_law_972 (am_tw kw_741 rfl) (Nat.le_of_ble_eq_true rfl) ⟨Nat.le_of_ble_eq_true rfl, Nat.le_of_ble_eq_true rfl⟩ ⟨by show (k + 1) + 1 ≤ 601024; omega, by show (n + 6) + 6 ≤ 7293034; omega⟩ ⟨by omega, by omega⟩ hlt h (fun r51 I49 J50 h => ?_)
      refine am_iload 1 dL_law_975 rfl ?_
      refine am_icmp_eq 982 dL_law_977 (by decide) (fun hc52 => ?_) (fun hc52 => ?_)
      · replace h := h.1 hc52
        refine am_iload 1 dL_law_982 rfl ?_
        refine am_if_ne 999 dL_law_984 (by decide) (fun hc53 => ?_) (fun hc53 => ?_)
        · replace h := h.1 hc53
          refine am_goto 1101 dL_law_999 (by decide) ?_
          exact am_sub [2, 3, 4, 5, 6] rfl (am_widen (by omega) (by omega) (kk _ _ h))
        · replace h := h.2 hc53
          refine am_aload_n 5 dL_law_987 rfl rfl ?_
          refine am_iconst (v := 0) dL_law_988 (by decide) ?_
          obtain ⟨hi54, h⟩ := h
          refine ld_45 hi54 dL_law_989 ?_
          refine am_iload 0 dL_law_990 rfl ?_
          refine am_i2l dL_law_992 ?_
          refine am_lcmp dL_law_993 ?_
          refine am_if_eq 999 dL_law_994 (by decide) (fun hc55 => ?_) (fun hc55 => ?_)
          · replace h := h.1 hc55
            refine am_goto 1101 dL_law_999 (by decide) ?_
            exact am_sub [2, 3, 4, 5, 6] rfl (am_widen (by omega) (by omega) (kk _ _ h))
          · replace h := h.2 hc55
            refine am_iconst (v := 0) dL_law_997 (by decide) ?_
            exact h.elim
      · replace h := h.2 hc52
        refine am_iconst (v := 0) dL_law_980 (by decide) ?_
        exact h.elim
    · replace h := h.2 hc43
      refine am_iconst (v := 1) dL_law_939 (by decide) ?_
      refine am_goto 944 dL_law_940 (by decide) ?_
      refine am_aload_n 1 dL_law_944 rfl rfl ?_
      refine am_iload 5 dL_law_945 rfl ?_
      refine am_iconst (v := 3) dL_law_947 (by decide) ?_
      refine am_iadd dL_law_948 ?_
      obtain ⟨hi56, h⟩ := h
      refine am_sld hi56 dL_law_949 ?_
      refine am_i2l dL_law_950 ?_
      refine am_bipush (v := 32) dL_law_951 (by decide) ?_
      refine am_lshl dL_law_953 ?_
      refine am_aload_n 1 dL_law_954 rfl rfl ?_
      refine am_iload 5 dL_law_955 rfl ?_
      refine am_iconst (v := 4) dL_law_957 (by decide) ?_
      refine am_iadd dL_law_958 ?_
      obtain ⟨hi57, h⟩ := h
      refine am_sld hi57 dL_law_959 ?_
      refine am_i2l dL_law_960 ?_
      refine am_ldc2 (v := 4294967295) dL_law_961 (am_tw kw_917 rfl) ?_
      refine am_land dL_law_964 ?_
      refine am_lor dL_law_965 ?_
      refine kV_M_queue dL_law_966 (am_tw kw_905 rfl) (Nat.le_of_ble_eq_true rfl) ⟨Nat.le_of_ble_eq_true rfl, Nat.le_of_ble_eq_true rfl⟩ ⟨by show (k + 1) + 1 ≤ 601024; omega, by show (n + 6) + 6 ≤ 7293034; omega⟩ ⟨by omega, by omega⟩ hlt h (fun r60 I58 J59 h => ?_)
      refine am_istore (L2 := [(6, .int r60), (5, .int r40), (0, .ref b), (1, .ref (ad 0)), (2, .ref (ad 28)), (3, .ref (ad 45)), (4, .int x4)]) dL_law_969 (Nat.le_of_ble_eq_true rfl) rfl ?_
      refine am_aload_n 4 dL_law_971 rfl rfl ?_
      refine kV_M_thrown dL_law_972 (am_tw kw_741 rfl) (Nat.le_of_ble_eq_true rfl) ⟨Nat.le_of_ble_eq_true rfl, Nat.le_of_ble_eq_true rfl⟩ ⟨by show (k + 1) + 1 ≤ 601024; omega, by show (n + 6) + 6 ≤ 7293034; omega⟩ ⟨by omega, by omega⟩ hlt h (fun r63 I61 J62 h => ?_)
      refine am_iload 1 dL_law_975 rfl ?_
      refine am_icmp_eq 982 dL_law_977 (by decide) (fun hc64 => ?_) (fun hc64 => ?_)
      · replace h := h.1 hc64
        refine am_iload 1 dL_law_982 rfl ?_
        refine am_if_ne 999 dL_law_984 (by decide) (fun hc65 => ?_) (fun hc65 => ?_)
        · replace h := h.1 hc65
          refine am_goto 1101 dL_law_999 (by decide) ?_
          exact am_sub [2, 3, 4, 5, 6] rfl (am_widen (by omega) (by omega) (kk _ _ h))
        · replace h := h.2 hc65
          refine am_aload_n 5 dL_law_987 rfl rfl ?_
          refine am_iconst (v := 0) dL_law_988 (by decide) ?_
          obtain ⟨hi66, h⟩ := h
          refine ld_45 hi66 dL_law_989 ?_
          refine am_iload 0 dL_law_990 rfl ?_
          refine am_i2l dL_law_992 ?_
          refine am_lcmp dL_law_993 ?_
          refine am_if_eq 999 dL_law_994 (by decide) (fun hc67 => ?_) (fun hc67 => ?_)
          · replace h := h.1 hc67
            refine am_goto 1101 dL_law_999 (by decide) ?_
            exact am_sub [2, 3, 4, 5, 6] rfl (am_widen (by omega) (by omega) (kk _ _ h))
          · replace h := h.2 hc67
            refine am_iconst (v := 0) dL_law_997 (by decide) ?_
            exact h.elim
      · replace h := h.2 hc64
        refine am_iconst (v := 0) dL_law_980 (by decide) ?_
        exact h.elim
def w_case17 (L0 : Nat) (xs : Nat → Int32) (x4 : Int32) (I : am_MI) (J : am_MJ) (K : am_MI → am_MJ → Prop) : Prop :=
  w_L_serve I J (fun (r3 : Int32) (I1 : am_MI) (J2 : am_MJ) => w_M_serve I1 J2 (fun (r6 : Int32) (I4 : am_MI) (J5 : am_MJ) => w_M_thrown I4 J5 (fun (r9 : Int32) (I7 : am_MI) (J8 : am_MJ) => (r9 = r3 → ((¬ r3 = 0 → (K I7 J8)) ∧ (r3 = 0 → (vp_in (0 : Int32) 1 ∧ (((lg_cmp (J8 45 (0 : Int32).toNatClampNeg) r6.toInt64) = 0 → (K I7 J8)) ∧ (¬ ((lg_cmp (J8 45 (0 : Int32).toNatClampNeg) r6.toInt64) = 0) → (False))))))) ∧ (¬ (r9 = r3) → (False))) (fun _ _ _ => False)) (fun _ _ _ => False)) (fun _ _ _ => False)
set_option maxRecDepth 20000 in
theorem t_case17 {l : Launch} {D : va_G} {aC : Nat → ClassId} {ad : Nat → Nat} (hlt : l.stackTraces = false) {b L0 k n : Nat} (hkn : k + 100 ≤ 601024 ∧ n + 1000 ≤ 7293034) {xs : Nat → Int32} {x4 : Int32} {I : am_MI} {J : am_MJ} {K : am_MI → am_MJ → Prop} (kk : ∀ (I : am_MI) (J : am_MJ), K I J → am l D aC "BubbleBoxLaw" cL_law 8 (some .boolean) false [] (am_GS b L0 xs) room_1 601024 7293034 (k + 1) (n + 6) 1101 [(0, .ref b), (1, .ref (ad 0)), (2, .ref (ad 28)), (3, .ref (ad 45)), (4, .int x4)] [] (am_w ad aC I J) (fun v _ => v = some (.int 1)) (am_lx ad aC (fun _ _ _ => False))) (h : w_case17 L0 xs x4 I J K) : am l D aC "BubbleBoxLaw" cL_law 8 (some .boolean) false [] (am_GS b L0 xs) room_1 601024 7293034 k n 1002 [(0, .ref b), (1, .ref (ad 0)), (2, .ref (ad 28)), (3, .ref (ad 45)), (4, .int x4)] [] (am_w ad aC I J) (fun v _ => v = some (.int 1)) (am_lx ad aC (fun _ _ _ => False)) := by
  unfold w_case17 at h
  have hk1 := hkn.1
  have hn1 := hkn.2
  refine am_aload_n 1 dL_law_1002 rfl rfl ?_
  refine am_aload_n 3 dL_law_1003 rfl rfl ?_
  refine kH_L_serve dL_law_1004 (am_tw kw_616 rfl) (Nat.le_of_ble_eq_true rfl) ⟨Nat.le_of_ble_eq_true rfl, Nat.le_of_ble_eq_true rfl⟩ ⟨by show k + 2 ≤ 601024; omega, by show n + 12 ≤ 7293034; omega⟩ ⟨by omega, by omega⟩ hlt h (fun r3 I1 J2 h => ?_)
  refine am_istore (L2 := [(5, .int r3), (0, .ref b), (1, .ref (ad 0)), (2, .ref (ad 28)), (3, .ref (ad 45)), (4, .int x4)]) dL_law_1007 (Nat.le_of_ble_eq_true rfl) rfl ?_
  refine am_aload_n 3 dL_law_1009 rfl rfl ?_
  refine kV_M_serve dL_law_1010 (am_tw kw_909 rfl) (Nat.le_of_ble_eq_true rfl) ⟨Nat.le_of_ble_eq_true rfl, Nat.le_of_ble_eq_true rfl⟩ ⟨by show (k + 1) + 1 ≤ 601024; omega, by show (n + 6) + 6 ≤ 7293034; omega⟩ ⟨by omega, by omega⟩ hlt h (fun r6 I4 J5 h => ?_)
  refine am_istore (L2 := [(6, .int r6), (5, .int r3), (0, .ref b), (1, .ref (ad 0)), (2, .ref (ad 28)), (3, .ref (ad 45)), (4, .int x4)]) dL_law_1013 (Nat.le_of_ble_eq_true rfl) rfl ?_
  refine am_aload_n 4 dL_law_1015 rfl rfl ?_
  refine kV_M_thrown dL_law_1016 (am_tw kw_741 rfl) (Nat.le_of_ble_eq_true rfl) ⟨Nat.le_of_ble_eq_true rfl, Nat.le_of_ble_eq_true rfl⟩ ⟨by show (k + 1) + 1 ≤ 601024; omega, by show (n + 6) + 6 ≤ 7293034; omega⟩ ⟨by omega, by omega⟩ hlt h (fun r9 I7 J8 h => ?_)
  refine am_iload 1 dL_law_1019 rfl ?_
  refine am_icmp_eq 1026 dL_law_1021 (by decide) (fun hc10 => ?_) (fun hc10 => ?_)
  · replace h := h.1 hc10
    refine am_iload 1 dL_law_1026 rfl ?_
    refine am_if_ne 1043 dL_law_1028 (by decide) (fun hc11 => ?_) (fun hc11 => ?_)
    · replace h := h.1 hc11
      refine am_goto 1101 dL_law_1043 (by decide) ?_
      exact am_sub [2, 3, 4, 5, 6] rfl (am_widen (by omega) (by omega) (kk _ _ h))
    · replace h := h.2 hc11
      refine am_aload_n 5 dL_law_1031 rfl rfl ?_
      refine am_iconst (v := 0) dL_law_1032 (by decide) ?_
      obtain ⟨hi12, h⟩ := h
      refine ld_45 hi12 dL_law_1033 ?_
      refine am_iload 0 dL_law_1034 rfl ?_
      refine am_i2l dL_law_1036 ?_
      refine am_lcmp dL_law_1037 ?_
      refine am_if_eq 1043 dL_law_1038 (by decide) (fun hc13 => ?_) (fun hc13 => ?_)
      · replace h := h.1 hc13
        refine am_goto 1101 dL_law_1043 (by decide) ?_
        exact am_sub [2, 3, 4, 5, 6] rfl (am_widen (by omega) (by omega) (kk _ _ h))
      · replace h := h.2 hc13
        refine am_iconst (v := 0) dL_law_1041 (by decide) ?_
        exact h.elim
  · replace h := h.2 hc10
    refine am_iconst (v := 0) dL_law_1024 (by decide) ?_
    exact h.elim
def w_case18 (L0 : Nat) (xs : Nat → Int32) (x4 : Int32) (I : am_MI) (J : am_MJ) (K : am_MI → am_MJ → Prop) : Prop :=
  vp_in (x4 + (1 : Int32)) L0 ∧ (w_L_served (xs (x4 + (1 : Int32)).toNatClampNeg) I J (fun (r4 : Int32) (I2 : am_MI) (J3 : am_MJ) => vp_in (x4 + (1 : Int32)) L0 ∧ (w_M_served (xs (x4 + (1 : Int32)).toNatClampNeg) I2 J3 (fun (r8 : Int64) (I6 : am_MI) (J7 : am_MJ) => w_M_thrown I6 J7 (fun (r11 : Int32) (I9 : am_MI) (J10 : am_MJ) => (r11 = r4 → ((¬ r4 = 0 → (K I9 J10)) ∧ (r4 = 0 → (vp_in (0 : Int32) 1 ∧ (((lg_cmp (J10 45 (0 : Int32).toNatClampNeg) r8) = 0 → (K I9 J10)) ∧ (¬ ((lg_cmp (J10 45 (0 : Int32).toNatClampNeg) r8) = 0) → (False))))))) ∧ (¬ (r11 = r4) → (False))) (fun _ _ _ => False)) (fun _ _ _ => False))) (fun _ _ _ => False))
set_option maxRecDepth 20000 in
theorem t_case18 {l : Launch} {D : va_G} {aC : Nat → ClassId} {ad : Nat → Nat} (hlt : l.stackTraces = false) {b L0 k n : Nat} (hkn : k + 100 ≤ 601024 ∧ n + 1000 ≤ 7293034) {xs : Nat → Int32} {x4 : Int32} {I : am_MI} {J : am_MJ} {K : am_MI → am_MJ → Prop} (kk : ∀ (I : am_MI) (J : am_MJ), K I J → am l D aC "BubbleBoxLaw" cL_law 8 (some .boolean) false [] (am_GS b L0 xs) room_1 601024 7293034 (k + 1) (n + 6) 1101 [(0, .ref b), (1, .ref (ad 0)), (2, .ref (ad 28)), (3, .ref (ad 45)), (4, .int x4)] [] (am_w ad aC I J) (fun v _ => v = some (.int 1)) (am_lx ad aC (fun _ _ _ => False))) (h : w_case18 L0 xs x4 I J K) : am l D aC "BubbleBoxLaw" cL_law 8 (some .boolean) false [] (am_GS b L0 xs) room_1 601024 7293034 k n 1046 [(0, .ref b), (1, .ref (ad 0)), (2, .ref (ad 28)), (3, .ref (ad 45)), (4, .int x4)] [] (am_w ad aC I J) (fun v _ => v = some (.int 1)) (am_lx ad aC (fun _ _ _ => False)) := by
  unfold w_case18 at h
  have hk1 := hkn.1
  have hn1 := hkn.2
  refine am_aload_n 1 dL_law_1046 rfl rfl ?_
  refine am_aload_n 0 dL_law_1047 rfl rfl ?_
  refine am_iload 4 dL_law_1048 rfl ?_
  refine am_iconst (v := 1) dL_law_1050 (by decide) ?_
  refine am_iadd dL_law_1051 ?_
  obtain ⟨hi1, h⟩ := h
  refine am_sld hi1 dL_law_1052 ?_
  refine am_aload_n 3 dL_law_1053 rfl rfl ?_
  refine kH_L_served dL_law_1054 (am_tw kw_637 rfl) (Nat.le_of_ble_eq_true rfl) ⟨Nat.le_of_ble_eq_true rfl, Nat.le_of_ble_eq_true rfl⟩ ⟨by show k + 2 ≤ 601024; omega, by show n + 12 ≤ 7293034; omega⟩ ⟨by omega, by omega⟩ hlt h (fun r4 I2 J3 h => ?_)
  refine am_istore (L2 := [(5, .int r4), (0, .ref b), (1, .ref (ad 0)), (2, .ref (ad 28)), (3, .ref (ad 45)), (4, .int x4)]) dL_law_1057 (Nat.le_of_ble_eq_true rfl) rfl ?_
  refine am_aload_n 3 dL_law_1059 rfl rfl ?_
  refine am_aload_n 1 dL_law_1060 rfl rfl ?_
  refine am_iload 5 dL_law_1061 rfl ?_
  refine am_iconst (v := 1) dL_law_1063 (by decide) ?_
  refine am_iadd dL_law_1064 ?_
  obtain ⟨hi5, h⟩ := h
  refine am_sld hi5 dL_law_1065 ?_
  refine kV_M_served dL_law_1066 (am_tw kw_913 rfl) (Nat.le_of_ble_eq_true rfl) ⟨Nat.le_of_ble_eq_true rfl, Nat.le_of_ble_eq_true rfl⟩ ⟨by show (k + 1) + 1 ≤ 601024; omega, by show (n + 6) + 6 ≤ 7293034; omega⟩ ⟨by omega, by omega⟩ hlt h (fun r8 I6 J7 h => ?_)
  refine am_lstore (L2 := [(6, .long r8), (5, .int r4), (0, .ref b), (1, .ref (ad 0)), (2, .ref (ad 28)), (3, .ref (ad 45)), (4, .int x4)]) dL_law_1069 (Nat.le_of_ble_eq_true rfl) rfl ?_
  refine am_aload_n 4 dL_law_1071 rfl rfl ?_
  refine kV_M_thrown dL_law_1072 (am_tw kw_741 rfl) (Nat.le_of_ble_eq_true rfl) ⟨Nat.le_of_ble_eq_true rfl, Nat.le_of_ble_eq_true rfl⟩ ⟨by show (k + 1) + 1 ≤ 601024; omega, by show (n + 6) + 6 ≤ 7293034; omega⟩ ⟨by omega, by omega⟩ hlt h (fun r11 I9 J10 h => ?_)
  refine am_iload 1 dL_law_1075 rfl ?_
  refine am_icmp_eq 1082 dL_law_1077 (by decide) (fun hc12 => ?_) (fun hc12 => ?_)
  · replace h := h.1 hc12
    refine am_iload 1 dL_law_1082 rfl ?_
    refine am_if_ne 1098 dL_law_1084 (by decide) (fun hc13 => ?_) (fun hc13 => ?_)
    · replace h := h.1 hc13
      refine am_goto 1101 dL_law_1098 (by decide) ?_
      exact am_sub [2, 3, 4, 5, 6] rfl (am_widen (by omega) (by omega) (kk _ _ h))
    · replace h := h.2 hc13
      refine am_aload_n 5 dL_law_1087 rfl rfl ?_
      refine am_iconst (v := 0) dL_law_1088 (by decide) ?_
      obtain ⟨hi14, h⟩ := h
      refine ld_45 hi14 dL_law_1089 ?_
      refine am_lload 0 dL_law_1090 rfl ?_
      refine am_lcmp dL_law_1092 ?_
      refine am_if_eq 1098 dL_law_1093 (by decide) (fun hc15 => ?_) (fun hc15 => ?_)
      · replace h := h.1 hc15
        refine am_goto 1101 dL_law_1098 (by decide) ?_
        exact am_sub [2, 3, 4, 5, 6] rfl (am_widen (by omega) (by omega) (kk _ _ h))
      · replace h := h.2 hc15
        refine am_iconst (v := 0) dL_law_1096 (by decide) ?_
        exact h.elim
  · replace h := h.2 hc12
    refine am_iconst (v := 0) dL_law_1080 (by decide) ?_
    exact h.elim
