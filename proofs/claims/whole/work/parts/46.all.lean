section PU26
theorem inv_all {L0 : Nat} {xs : Nat → Int32} {x4 : Int32} {I : am_MI} {J : am_MJ} (hL : L0 ≤ 2560) (h0 : 0 ≤ x4.toInt) (h5 : x4.toInt + 5 ≤ L0) (h : INV I J) : w_all L0 xs x4 I J INV :=
  ⟨case0 h0 h5 hL h, case1 h0 h5 hL h, case2 h, case3 h, case4 h, case5 h, case6 h0 h5 hL h, case7 h0 h5 hL h, case8 h0 h5 hL h, case9 h0 h5 hL h, case10 h0 h5 hL h, case11 h0 h5 hL h, case12 h0 h5 hL h, case13 h, case14 h, case15 h0 h5 hL h, case16 h0 h5 hL h, case17 h, case18 h0 h5 hL h⟩
/-- an invariant that the start has and every call keeps -/
theorem pure_inv : ∃ Inv : am_MI → am_MJ → Prop, w_M_forget am_I0 am_J0 (fun I J => Inv I (fun k => if k = 45 then (fun _ => 0) else J k)) (fun _ _ _ => False) ∧ ∀ (L : Nat) (xs : Nat → Int32) (x4 : Int32) (I : am_MI) (J : am_MJ), L ≤ 2560 → 0 ≤ x4.toInt → x4.toInt + 5 ≤ L → Inv I J → w_all L xs x4 I J Inv :=
  ⟨INV, inv_start, fun _ _ _ _ _ hL h0 h5 h => inv_all hL h0 h5 h⟩
end PU26
