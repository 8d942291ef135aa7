section AMLL
def w_all (L0 : Nat) (xs : Nat → Int32) (x4 : Int32) (I : am_MI) (J : am_MJ) (K : am_MI → am_MJ → Prop) : Prop :=
  w_case0 L0 xs x4 I J K ∧ w_case1 L0 xs x4 I J K ∧ w_case2 L0 xs x4 I J K ∧ w_case3 L0 xs x4 I J K ∧ w_case4 L0 xs x4 I J K ∧ w_case5 L0 xs x4 I J K ∧ w_case6 L0 xs x4 I J K ∧ w_case7 L0 xs x4 I J K ∧ w_case8 L0 xs x4 I J K ∧ w_case9 L0 xs x4 I J K ∧ w_case10 L0 xs x4 I J K ∧ w_case11 L0 xs x4 I J K ∧ w_case12 L0 xs x4 I J K ∧ w_case13 L0 xs x4 I J K ∧ w_case14 L0 xs x4 I J K ∧ w_case15 L0 xs x4 I J K ∧ w_case16 L0 xs x4 I J K ∧ w_case17 L0 xs x4 I J K ∧ w_case18 L0 xs x4 I J K
theorem am_and31 (x : Int32) : ∃ c : Nat, c < 32 ∧ x &&& 31 = nI c := by
  refine ⟨(x.toBitVec &&& 31#32).toNat, ?_, ?_⟩
  · have h : (x.toBitVec &&& 31#32).toNat ≤ 31 := by
      rw [BitVec.toNat_and]
      exact Nat.and_le_right
    omega
  · apply Int32.toBitVec_inj.mp
    rw [Int32.toBitVec_and]
    show x.toBitVec &&& 31#32 = (Int32.ofNat _).toBitVec
    rw [Int32.toBitVec_ofNat']
    simp
variable {l : Launch} {D : va_G} {aC : Nat → ClassId} {ad : Nat → Nat} {b L0 : Nat} {xs : Nat → Int32}
theorem am_disp (hlt : l.stackTraces = false) {i k n c : Nat} (hc : c < 32) (hkn : k + 100 ≤ 601024 ∧ n + 1000 ≤ 7293034) {I : am_MI} {J : am_MJ} {K : am_MI → am_MJ → Prop} (kk : ∀ (I : am_MI) (J : am_MJ), K I J → am l D aC "BubbleBoxLaw" cL_law 8 (some .boolean) false [] (am_GS b L0 xs) room_1 601024 7293034 (k + 1) (n + 6) 1101 [(0, .ref b), (1, .ref (ad 0)), (2, .ref (ad 28)), (3, .ref (ad 45)), (4, .int (nI i))] [] (am_w ad aC I J) (fun v _ => v = some (.int 1)) (am_lx ad aC (fun _ _ _ => False))) (hK : K I J) (h : w_all L0 xs (nI i) I J K) : am l D aC "BubbleBoxLaw" cL_law 8 (some .boolean) false [] (am_GS b L0 xs) room_1 601024 7293034 k n 39 [(0, .ref b), (1, .ref (ad 0)), (2, .ref (ad 28)), (3, .ref (ad 45)), (4, .int (nI i))] [.int (nI c)] (am_w ad aC I J) (fun v _ => v = some (.int 1)) (am_lx ad aC (fun _ _ _ => False)) := by
  obtain ⟨h0, h1, h2, h3, h4, h5, h6, h7, h8, h9, h10, h11, h12, h13, h14, h15, h16, h17, h18⟩ := h
  by_cases hc2 : c < 19
  · match c, hc2 with
    | 0, _ => exact am_tabIn 128 dL_law_39 (by decide) (by decide) rfl (by decide) (t_case0 hlt hkn kk h0)
    | 1, _ => exact am_tabIn 176 dL_law_39 (by decide) (by decide) rfl (by decide) (t_case1 hlt hkn kk h1)
    | 2, _ => exact am_tabIn 199 dL_law_39 (by decide) (by decide) rfl (by decide) (t_case2 hlt hkn kk h2)
    | 3, _ => exact am_tabIn 212 dL_law_39 (by decide) (by decide) rfl (by decide) (t_case3 hlt hkn kk h3)
    | 4, _ => exact am_tabIn 226 dL_law_39 (by decide) (by decide) rfl (by decide) (t_case4 hlt hkn kk h4)
    | 5, _ => exact am_tabIn 277 dL_law_39 (by decide) (by decide) rfl (by decide) (t_case5 hlt hkn kk h5)
    | 6, _ => exact am_tabIn 290 dL_law_39 (by decide) (by decide) rfl (by decide) (t_case6 hlt hkn kk h6)
    | 7, _ => exact am_tabIn 346 dL_law_39 (by decide) (by decide) rfl (by decide) (t_case7 hlt hkn kk h7)
    | 8, _ => exact am_tabIn 402 dL_law_39 (by decide) (by decide) rfl (by decide) (t_case8 hlt hkn kk h8)
    | 9, _ => exact am_tabIn 458 dL_law_39 (by decide) (by decide) rfl (by decide) (t_case9 hlt hkn kk h9)
    | 10, _ => exact am_tabIn 526 dL_law_39 (by decide) (by decide) rfl (by decide) (t_case10 hlt hkn kk h10)
    | 11, _ => exact am_tabIn 594 dL_law_39 (by decide) (by decide) rfl (by decide) (t_case11 hlt hkn kk h11)
    | 12, _ => exact am_tabIn 662 dL_law_39 (by decide) (by decide) rfl (by decide) (t_case12 hlt hkn kk h12)
    | 13, _ => exact am_tabIn 718 dL_law_39 (by decide) (by decide) rfl (by decide) (t_case13 hlt hkn kk h13)
    | 14, _ => exact am_tabIn 762 dL_law_39 (by decide) (by decide) rfl (by decide) (t_case14 hlt hkn kk h14)
    | 15, _ => exact am_tabIn 806 dL_law_39 (by decide) (by decide) rfl (by decide) (t_case15 hlt hkn kk h15)
    | 16, _ => exact am_tabIn 874 dL_law_39 (by decide) (by decide) rfl (by decide) (t_case16 hlt hkn kk h16)
    | 17, _ => exact am_tabIn 1002 dL_law_39 (by decide) (by decide) rfl (by decide) (t_case17 hlt hkn kk h17)
    | 18, _ => exact am_tabIn 1046 dL_law_39 (by decide) (by decide) rfl (by decide) (t_case18 hlt hkn kk h18)
    | q + 19, h => exact absurd h (by omega)
  · refine am_tabOut 1101 dL_law_39 (Or.inr ?_) (by decide) (am_widen (by omega) (by omega) (kk I J hK))
    rw [nI_toInt (by omega)]
    omega
theorem am_head (hlt : l.stackTraces = false) (hL : L0 ≤ 2560) {Inv : am_MI → am_MJ → Prop} (hs : ∀ (x4 : Int32) (I : am_MI) (J : am_MJ), 0 ≤ x4.toInt → x4.toInt + 5 ≤ L0 → Inv I J → w_all L0 xs x4 I J Inv) {i : Nat} (hi : i ≤ 2565) {I : am_MI} {J : am_MJ} (hI : Inv I J)
    (kk : i + 5 ≤ L0 → ∀ (I : am_MI) (J : am_MJ), Inv I J → am l D aC "BubbleBoxLaw" cL_law 8 (some .boolean) false [] (am_GS b L0 xs) room_1 601024 7293034 (100 + i + 1) (5000 + 6 * i + 6) 1101 [(0, .ref b), (1, .ref (ad 0)), (2, .ref (ad 28)), (3, .ref (ad 45)), (4, .int (nI i))] [] (am_w ad aC I J) (fun v _ => v = some (.int 1)) (am_lx ad aC (fun _ _ _ => False))) : am l D aC "BubbleBoxLaw" cL_law 8 (some .boolean) false [] (am_GS b L0 xs) room_1 601024 7293034 (100 + i) (5000 + 6 * i) 23 [(0, .ref b), (1, .ref (ad 0)), (2, .ref (ad 28)), (3, .ref (ad 45)), (4, .int (nI i))] [] (am_w ad aC I J) (fun v _ => v = some (.int 1)) (am_lx ad aC (fun _ _ _ => False)) := by
  have e5 : (nI L0 - 5).toInt = (L0 : Int) - 5 := pk_sub_toInt (a := L0) (b := 5) (by omega) (by omega)
  have ei : (nI i).toInt = (i : Int) := nI_toInt (by omega)
  refine am_iload 4 dL_law_23 rfl ?_
  refine am_aload_n 0 dL_law_25 rfl rfl ?_
  refine am_slen dL_law_26 ?_
  refine am_iconst (v := 5) dL_law_27 (by decide) ?_
  refine am_isub dL_law_28 ?_
  refine am_icmp_gt 1107 dL_law_29 (by decide) (fun h => ?_) (fun h => ?_)
  · refine am_iconst (v := 1) dL_law_1107 (by decide) ?_
    exact am_zret dL_law_1108 rfl (by omega) (by omega) (by decide) rfl
  · have hle : i + 5 ≤ L0 := by
      rw [Int32.lt_iff_toInt_lt, e5, ei] at h
      omega
    refine am_aload_n 0 dL_law_32 rfl rfl ?_
    refine am_iload 4 dL_law_33 rfl ?_
    refine am_sld (vp_in_nI (by omega) (by omega)) dL_law_35 ?_
    refine am_bipush (v := 31) dL_law_36 (by decide) ?_
    refine am_iand dL_law_38 ?_
    obtain ⟨c, hc, ec⟩ := am_and31 (xs (nI i).toNatClampNeg)
    rw [ec]
    exact am_disp hlt hc ⟨by omega, by omega⟩ (kk hle) hI (hs (nI i) I J (by rw [ei]; omega) (by rw [ei]; omega) hI)
theorem am_loop (hlt : l.stackTraces = false) (hL : L0 ≤ 2560) {Inv : am_MI → am_MJ → Prop} (hs : ∀ (x4 : Int32) (I : am_MI) (J : am_MJ), 0 ≤ x4.toInt → x4.toInt + 5 ≤ L0 → Inv I J → w_all L0 xs x4 I J Inv) : ∀ (r i : Nat) (I : am_MI) (J : am_MJ), i ≤ 2565 → L0 ≤ i + 5 * r → Inv I J → am l D aC "BubbleBoxLaw" cL_law 8 (some .boolean) false [] (am_GS b L0 xs) room_1 601024 7293034 (100 + i) (5000 + 6 * i) 23 [(0, .ref b), (1, .ref (ad 0)), (2, .ref (ad 28)), (3, .ref (ad 45)), (4, .int (nI i))] [] (am_w ad aC I J) (fun v _ => v = some (.int 1)) (am_lx ad aC (fun _ _ _ => False)) := by
  intro r
  induction r with
  | zero => exact fun i I J hi hr hI => am_head hlt hL hs hi hI (fun h => absurd h (by omega))
  | succ r ih =>
    intro i I J hi hr hI
    refine am_head hlt hL hs hi hI (fun hle I J hI => ?_)
    refine am_iinc (j := 4) (v := nI (i + 5)) (L2 := [(4, .int (nI (i + 5))), (0, .ref b), (1, .ref (ad 0)), (2, .ref (ad 28)), (3, .ref (ad 45))]) dL_law_1101 rfl (nI_add i 5) (Nat.le_of_ble_eq_true rfl) rfl ?_
    refine am_goto 23 dL_law_1104 (by decide) ?_
    exact am_sub [1, 2, 3, 4, 0] rfl (am_widen (by omega) (by omega) (ih (i + 5) I J (by omega) (by omega) hI))
end AMLL
