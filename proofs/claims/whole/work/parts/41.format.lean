section PU21
/-! forget, format -/
def v0 : VT := (fun _ => 0, fun _ => 0, fun _ _ => 0, fun _ => 0, fun _ => 0, fun _ => false, fun _ => false)
def q0 : QT := (0, 0, fun _ => 0, fun _ => 0, fun _ => 0, fun _ => 0)
theorem v0_np (f : Nat) : np (vL v0 f) = 0 := by
  unfold np
  show (0 + 7) / 8 = 0
  decide
theorem v0_u (p : Nat) : ¬ used v0 p := by
  rintro ⟨f, -, i, hi, -⟩
  exact absurd hi (by rw [v0_np]; omega)
theorem v0_ok : vOK v0 := by
  refine ⟨fun _ _ _ => rfl, fun f _ i hi => ?_, fun f _ g _ i hi => ?_, fun f _ h => absurd rfl h, fun f _ h => Bool.noConfusion h⟩
  · exact absurd hi (by rw [v0_np]; omega)
  · exact absurd hi (by rw [v0_np]; omega)
theorem q0_ok : qOK q0 := ⟨by decide, by decide, fun k hk => absurd hk (Nat.not_lt_zero k)⟩
section
variable {c c' : CH} {v v' : VT} {cur t : Nat} {q : QT} {bd : Nat → Int32} {e : Nat → Nat} {I I' : am_MI} {J J' : am_MJ}
theorem s_B_forgetAll {Q : am_MI → am_MJ → Prop} {X : String → am_MI → am_MJ → Prop}
    (hq : ∀ I' J', (∀ k, k < 6 ∨ 17 < k → I' k = I k) → (∀ k, k < 6 ∨ 14 ≤ k → J' k = J k) → rcV v0 I' J' → rcQ q0 I' J' → Q I' J') : w_B_forgetAll I J Q X := by
  unfold w_B_forgetAll w_D_forget w_D_forget_2
  intro P hP
  have k25 : ∀ J1, (∀ k, k < 6 ∨ 14 ≤ k → J1 k = J k) → ∀ m x I1, x + m = 101 → (∀ k, k < 6 ∨ 16 < k → I1 k = I k) → (∀ f, f < 8 → I1 (6 + f) 0 = 0 ∧ I1 (6 + f) 1 = 0 ∧ I1 (6 + f) 2 = 0 ∧ I1 (6 + f) 3 = 0 ∧ I1 (6 + f) 5 = 0) → (∀ p, p < x → I1 14 p = 0 ∧ I1 15 p = 0 ∧ I1 16 p = 0) → ∀ P25 : Int32 → am_MI → am_MJ → Prop, (∀ (x1 : Int32) (I : am_MI) (J : am_MJ), (((101 : Int32) ≤ x1 → (w_R_forget I J (fun (I4 : am_MI) (J5 : am_MJ) => Q I4 J5) (fun _ _ _ => False))) ∧ (¬ ((101 : Int32) ≤ x1) → (vp_in x1 101 ∧ (vp_in x1 101 ∧ (vp_in x1 101 ∧ (P25 (x1 + 1) (am_ui (am_ui (am_ui I 14 x1.toNatClampNeg (0 : Int32)) 15 x1.toNatClampNeg (vp_nar .boolean (0 : Int32))) 16 x1.toNatClampNeg (vp_nar .boolean (0 : Int32))) J)))))) → P25 x1 I J) → P25 (nI x) I1 J1 := by
    intro J1 j1 m
    induction m with
    | zero =>
      intro x I1 hx k1 k2 k3 P25 h25
      obtain rfl : x = 101 := by omega
      refine h25 _ _ _ (br_t (nI_le (a := 101) (by omega) (by omega)) ?_)
      unfold w_R_forget
      have kk : ∀ k, k ≠ 17 → am_ui (am_ui I1 17 5 0) 17 6 0 k = I1 k := fun k h => by rw [pu_k h, pu_k h]
      refine hq _ _ (fun k hk => (kk k (by omega)).trans (k1 k (by omega))) j1 ?_ ⟨?_, ?_, fun k hk => absurd hk (Nat.not_lt_zero k), fun k hk => absurd hk (Nat.not_lt_zero k)⟩
      · refine ⟨fun f hf => ?_, fun f hf => ?_, fun f hf => ?_, fun f hf => ?_, fun f hf hw => absurd rfl hw, fun f hf => ?_, fun f hf i hi => ?_, fun p hp _ => ?_, fun p hp => ⟨fun u => absurd u (v0_u p), fun _ => ?_⟩, fun p hp => ?_⟩
        · rw [kk (6 + f) (by omega)]; exact (k2 f hf).1
        · rw [kk (6 + f) (by omega)]; exact (k2 f hf).2.2.1
        · rw [kk (6 + f) (by omega), if_pos (v0_np f)]; exact (k2 f hf).2.1
        · rw [kk (6 + f) (by omega)]; exact (k2 f hf).2.2.2.1
        · rw [kk (6 + f) (by omega)]; exact (k2 f hf).2.2.2.2
        · exact absurd hi (by rw [v0_np]; omega)
        · rw [kk 14 (by omega)]; exact (k3 p hp).1
        · rw [kk 15 (by omega)]; exact (k3 p hp).2.1
        · rw [kk 16 (by omega)]; exact (k3 p hp).2.2
      · rw [pu_f (by decide), pu_s]; rfl
      · rw [pu_s]; rfl
    | succ m ih =>
      intro x I1 hx k1 k2 k3 P25 h25
      refine h25 _ _ _ (br_f (nI_ge (b := 101) (by omega) (by omega)) ⟨vp_in_nI (by omega) (by omega), vp_in_nI (by omega) (by omega), vp_in_nI (by omega) (by omega), ?_⟩)
      rw [nI_clamp (by omega), nI_1, show vp_nar .boolean 0 = (0 : Int32) from rfl]
      have kk : ∀ k, k ≠ 14 → k ≠ 15 → k ≠ 16 → am_ui (am_ui (am_ui I1 14 x 0) 15 x 0) 16 x 0 k = I1 k := fun k h1 h2 h3 => by rw [pu_k h3, pu_k h2, pu_k h1]
      refine ih (x + 1) _ (by omega) (fun k hk => (kk k (by omega) (by omega) (by omega)).trans (k1 k hk)) (fun f hf => ?_) (fun p hp => ?_) P25 h25
      · rw [kk (6 + f) (by omega) (by omega) (by omega)]; exact k2 f hf
      · by_cases ep : p = x
        · subst ep
          refine ⟨?_, ?_, pu_s ..⟩
          · rw [pu_k (by decide), pu_k (by decide), pu_s]
          · rw [pu_k (by decide), pu_s]
        · have := k3 p (by omega)
          refine ⟨?_, ?_, ?_⟩
          · rw [pu_k (by decide), pu_k (by decide), pu_f ep]; exact this.1
          · rw [pu_k (by decide), pu_f ep, pu_k (by decide)]; exact this.2.1
          · rw [pu_f ep, pu_k (by decide), pu_k (by decide)]; exact this.2.2
  have key : ∀ m f I1 J1, f + m = 8 → (∀ k, k < 6 ∨ 13 < k → I1 k = I k) → (∀ k, k < 6 ∨ 14 ≤ k → J1 k = J k) → (∀ g, g < f → I1 (6 + g) 0 = 0 ∧ I1 (6 + g) 1 = 0 ∧ I1 (6 + g) 2 = 0 ∧ I1 (6 + g) 3 = 0 ∧ I1 (6 + g) 5 = 0) → P (nI f) I1 J1 := by
    intro m
    induction m with
    | zero =>
      intro f I1 J1 hf k1 j1 k2
      obtain rfl : f = 8 := by omega
      refine hP _ _ _ (br_t (nI_le (a := 8) (by omega) (by omega)) ?_)
      unfold w_D_forget_25
      intro P25 h25
      exact k25 J1 j1 101 0 I1 (by omega) (fun k hk => k1 k (by omega)) k2 (fun p hp => absurd hp (by omega)) P25 h25
    | succ m ih =>
      intro f I1 J1 hf k1 j1 k2
      refine hP _ _ _ (br_f (nI_ge (b := 8) (by omega) (by omega)) ⟨vp_in_nI (by omega) (by omega), ?_⟩)
      unfold w_E_forget w_E_openWindow
      rw [nI_clamp (by omega), nI_1]
      have kk : ∀ k, k ≠ 6 + f → am_ui (am_ui (am_ui (am_ui (am_ui I1 (6 + f) 0 0) (6 + f) 1 0) (6 + f) 2 0) (6 + f) 3 0) (6 + f) 5 0 k = I1 k := fun k h => by rw [pu_k h, pu_k h, pu_k h, pu_k h, pu_k h]
      refine ih (f + 1) _ _ (by omega) (fun k hk => (kk k (by omega)).trans (k1 k hk)) (fun k hk => (pj_k (by omega) ..).trans (j1 k hk)) (fun g hg => ?_)
      by_cases eg : g = f
      · subst eg
        refine ⟨?_, ?_, ?_, ?_, pu_s ..⟩
        · rw [pu_f (by decide), pu_f (by decide), pu_f (by decide), pu_f (by decide), pu_s]
        · rw [pu_f (by decide), pu_f (by decide), pu_f (by decide), pu_s]
        · rw [pu_f (by decide), pu_f (by decide), pu_s]
        · rw [pu_f (by decide), pu_s]
      · rw [kk (6 + g) (by omega)]; exact k2 g (by omega)
  exact key 8 0 I J (by omega) (fun _ _ => rfl) (fun _ _ => rfl) (fun g hg => absurd hg (by omega))
theorem s_M_forget {Q : am_MI → am_MJ → Prop} {X : String → am_MI → am_MJ → Prop}
    (hq : ∀ I', (∀ k, k < 28 ∨ k = 29 ∨ 37 < k → I' k = I k) → (∀ f, f ≠ 8 → f ≠ 20 → f ≠ 25 → I' 28 f = I 28 f) → I' 28 8 = 0 → rmV v0 I' J → rmQ q0 I' J → Q I' J) : w_M_forget I J Q X := by
  unfold w_M_forget w_M_forget_7
  intro P hP
  have k26 : ∀ m x I1, x + m = 101 → (∀ k, k < 28 ∨ k = 29 ∨ 37 < k → I1 k = I k) → (∀ f, f ≠ 8 → I1 28 f = I 28 f) → I1 28 8 = 0 → (∀ f, f < 8 → I1 31 f = 0 ∧ I1 32 f = 0 ∧ I1 34 f = -1 ∧ I1 36 f = 0) → (∀ p, p < x → I1 37 p = 0) → ∀ P26 : Int32 → am_MI → am_MJ → Prop, (∀ (x1 : Int32) (I : am_MI) (J : am_MJ), (((101 : Int32) ≤ x1 → (Q (am_ui (am_ui I 28 20 (0 : Int32)) 28 25 (0 : Int32)) J)) ∧ (¬ ((101 : Int32) ≤ x1) → (vp_in x1 101 ∧ (P26 (x1 + 1) (am_ui I 37 x1.toNatClampNeg (vp_nar .boolean (0 : Int32))) J)))) → P26 x1 I J) → P26 (nI x) I1 J := by
    intro m
    induction m with
    | zero =>
      intro x I1 hx k1 k2 k3 k4 k5 P26 h26
      obtain rfl : x = 101 := by omega
      refine h26 _ _ _ (br_t (nI_le (a := 101) (by omega) (by omega)) ?_)
      have kk : ∀ k, k ≠ 28 → am_ui (am_ui I1 28 20 0) 28 25 0 k = I1 k := fun k h => by rw [pu_k h, pu_k h]
      have kf : ∀ f, f ≠ 20 → f ≠ 25 → am_ui (am_ui I1 28 20 0) 28 25 0 28 f = I1 28 f := fun f h1 h2 => by rw [pu_f h2, pu_f h1]
      refine hq _ (fun k hk => (kk k (by omega)).trans (k1 k hk)) (fun f h1 h2 h3 => (kf f h2 h3).trans (k2 f h1)) ((kf 8 (by decide) (by decide)).trans k3) ?_ ⟨?_, ?_, fun k hk => absurd hk (Nat.not_lt_zero k), fun k hk => absurd hk (Nat.not_lt_zero k)⟩
      · refine ⟨fun f hf => ?_, fun f hf => ?_, fun f hf i hi => ?_, fun f hf => ?_, fun f hf hw => absurd rfl hw, fun f hf => ?_, fun p hp => ?_⟩
        · rw [kk 31 (by decide)]; exact (k4 f hf).1
        · rw [kk 32 (by decide)]; exact (k4 f hf).2.1
        · exact absurd hi (by rw [v0_np]; omega)
        · rw [kk 34 (by decide), (k4 f hf).2.2.1]; rfl
        · rw [kk 36 (by decide)]; exact (k4 f hf).2.2.2
        · rw [kk 37 (by decide)]; exact k5 p hp
      · rw [pu_f (by decide), pu_s]; rfl
      · rw [pu_s]; rfl
    | succ m ih =>
      intro x I1 hx k1 k2 k3 k4 k5 P26 h26
      refine h26 _ _ _ (br_f (nI_ge (b := 101) (by omega) (by omega)) ⟨vp_in_nI (by omega) (by omega), ?_⟩)
      rw [nI_clamp (by omega), nI_1, show vp_nar .boolean 0 = (0 : Int32) from rfl]
      have kk : ∀ k, k ≠ 37 → am_ui I1 37 x 0 k = I1 k := fun k h => pu_k h ..
      refine ih (x + 1) _ (by omega) (fun k hk => (kk k (by omega)).trans (k1 k hk)) (fun f hf => by rw [kk 28 (by decide)]; exact k2 f hf) (by rw [kk 28 (by decide)]; exact k3) (fun f hf => by rw [kk 31 (by decide), kk 32 (by decide), kk 34 (by decide), kk 36 (by decide)]; exact k4 f hf) (fun p hp => ?_) P26 h26
      by_cases ep : p = x
      · rw [ep, pu_s]
      · rw [pu_f ep]; exact k5 p (by omega)
  have key : ∀ m f I1, f + m = 8 → (∀ k, k < 28 ∨ k = 29 ∨ 36 < k → I1 k = I k) → (∀ f, f ≠ 8 → I1 28 f = I 28 f) → I1 28 8 = 0 → (∀ g, g < f → I1 31 g = 0 ∧ I1 32 g = 0 ∧ I1 34 g = -1 ∧ I1 36 g = 0) → P (nI f) I1 J := by
    intro m
    induction m with
    | zero =>
      intro f I1 hf k1 k2 k3 k4
      obtain rfl : f = 8 := by omega
      refine hP _ _ _ (br_t (nI_le (a := 8) (by omega) (by omega)) ?_)
      unfold w_M_forget_26
      intro P26 h26
      exact k26 101 0 I1 (by omega) (fun k hk => k1 k (by omega)) k2 k3 k4 (fun p hp => absurd hp (by omega)) P26 h26
    | succ m ih =>
      intro f I1 hf k1 k2 k3 k4
      refine hP _ _ _ (br_f (nI_ge (b := 8) (by omega) (by omega)) ?_)
      unfold w_M_drop
      have hin : vp_in (nI f) 8 := vp_in_nI (by omega) (by omega)
      refine ⟨hin, hin, hin, hin, ?_⟩
      rw [nI_clamp (by omega), nI_1, show vp_nar .boolean 0 = (0 : Int32) from rfl]
      have kk : ∀ k, k ≠ 31 → k ≠ 32 → k ≠ 34 → k ≠ 36 → am_ui (am_ui (am_ui (am_ui I1 31 f 0) 32 f 0) 34 f (-1)) 36 f 0 k = I1 k := fun k h1 h2 h3 h4 => by rw [pu_k h4, pu_k h3, pu_k h2, pu_k h1]
      refine ih (f + 1) _ (by omega) (fun k hk => (kk k (by omega) (by omega) (by omega) (by omega)).trans (k1 k hk)) (fun f hf => by rw [kk 28 (by decide) (by decide) (by decide) (by decide)]; exact k2 f hf) (by rw [kk 28 (by decide) (by decide) (by decide) (by decide)]; exact k3) (fun g hg => ?_)
      by_cases eg : g = f
      · subst eg
        refine ⟨?_, ?_, ?_, pu_s ..⟩
        · rw [pu_k (by decide), pu_k (by decide), pu_k (by decide), pu_s]
        · rw [pu_k (by decide), pu_k (by decide), pu_s]
        · rw [pu_k (by decide), pu_s]
      · have := k4 g (by omega)
        refine ⟨?_, ?_, ?_, ?_⟩
        · rw [pu_k (by decide), pu_k (by decide), pu_k (by decide), pu_f eg]; exact this.1
        · rw [pu_k (by decide), pu_k (by decide), pu_f eg, pu_k (by decide)]; exact this.2.1
        · rw [pu_k (by decide), pu_f eg, pu_k (by decide), pu_k (by decide)]; exact this.2.2.1
        · rw [pu_f eg, pu_k (by decide), pu_k (by decide), pu_k (by decide)]; exact this.2.2.2
  exact key 8 0 (am_ui I 28 8 0) (by omega) (fun k hk => pu_k (by omega) ..) (fun f hf => pu_f hf ..) (pu_s ..) (fun g hg => absurd hg (by omega))
/-- good loops -/
def cg (b : Nat → Int32) : Nat → Nat
  | 0 => 0
  | n + 1 => if b n = 0 then cg b n + 1 else cg b n
theorem cg_le {b : Nat → Int32} : ∀ n, cg b n ≤ n := by
  intro n
  induction n with
  | zero => exact Nat.le_refl _
  | succ n ih =>
    show (if b n = 0 then cg b n + 1 else cg b n) ≤ _
    split <;> omega
theorem cg_cg {b b' : Nat → Int32} : ∀ n, (∀ k, k < n → b k = b' k) → cg b n = cg b' n := by
  intro n
  induction n with
  | zero => intro _; rfl
  | succ n ih =>
    intro h
    show (if b n = 0 then cg b n + 1 else cg b n) = (if b' n = 0 then cg b' n + 1 else cg b' n)
    rw [h n (by omega), ih (fun k hk => h k (by omega))]
theorem s_C_goodLoops {Q : Int32 → am_MI → am_MJ → Prop} {X : String → am_MI → am_MJ → Prop} (hq : Q (nI (cg (I 3) 69)) I J) : w_C_goodLoops I J Q X := by
  unfold w_C_goodLoops w_C_goodLoops_4
  intro P hP
  have key : ∀ m x, x + m = 69 → P (nI (cg (I 3) x)) (nI x) I J := by
    intro m
    induction m with
    | zero =>
      intro x hx
      obtain rfl : x = 69 := by omega
      exact hP _ _ _ _ (br_t (nI_le (a := 69) (by omega) (by omega)) hq)
    | succ m ih =>
      intro x hx
      refine hP _ _ _ _ (br_f (nI_ge (b := 69) (by omega) (by omega)) ⟨vp_in_nI (by omega) (by omega), ?_⟩)
      rw [nI_clamp (by omega), nI_1, nI_1]
      have := ih (x + 1) (by omega)
      refine ⟨fun z => ?_, fun z => ?_⟩
      · rw [show cg (I 3) (x + 1) = cg (I 3) x from if_neg z] at this; exact this
      · rw [show cg (I 3) (x + 1) = cg (I 3) x + 1 from if_pos z] at this; exact this
  exact key 69 0 (by omega)
theorem s_C_clearPages {Q : am_MI → am_MJ → Prop} {X : String → am_MI → am_MJ → Prop} (hq : ∀ J', (∀ k, k ≠ 2 → J' k = J k) → (∀ p, p < 101 → J' 2 p = 0) → Q I J') : w_C_clearPages I J Q X := by
  unfold w_C_clearPages w_C_clearPages_2
  intro P hP
  have key : ∀ m x J1, x + m = 101 → (∀ k, k ≠ 2 → J1 k = J k) → (∀ p, p < x → J1 2 p = 0) → P (nI x) I J1 := by
    intro m
    induction m with
    | zero =>
      intro x J1 hx k1 k2
      obtain rfl : x = 101 := by omega
      exact hP _ _ _ (br_t (nI_le (a := 101) (by omega) (by omega)) (hq J1 k1 k2))
    | succ m ih =>
      intro x J1 hx k1 k2
      refine hP _ _ _ (br_f (nI_ge (b := 101) (by omega) (by omega)) ⟨vp_in_nI (by omega) (by omega), ?_⟩)
      rw [nI_clamp (by omega), nI_1]
      refine ih (x + 1) _ (by omega) (fun k hk => (pj_k hk ..).trans (k1 k hk)) (fun p hp => ?_)
      by_cases ep : p = x
      · rw [ep, pj_s]
      · rw [pj_f ep]; exact k2 p (by omega)
  exact key 101 0 J (by omega) (fun _ _ => rfl) (fun p hp => absurd hp (by omega))
theorem enc0_0 (i : Nat) : enc0 v0 0 i = 0 := by
  unfold enc0
  split
  · rfl
  · split
    · split
      · exact by32_z _
      · split
        · unfold fp
          rw [if_pos (v0_np _)]
        · show 0 / _ % 256 = 0
          rw [Nat.zero_div]
    · exact lk_no (fun f _ i hi => absurd hi (by rw [v0_np]; omega))
theorem pgv_0 {x : Nat} (hx : x < 19) : pgv (enc v0 0) x = 0 := by
  apply by64_ext
  intro j hj
  rw [by_pgv (fun i => enc_lt v0_ok (by omega) i) hj, by64_z]
  unfold enc
  rw [if_pos (by omega)]
  exact enc0_0 _
theorem IMG.zero {d : Nat → Int64} (h20 : d 20 = 0) (h : ∀ x, x < 20 → d x = pgv (enc v0 0) x) : IMG 0 0 d := by
  refine ⟨v0, v0_ok, fun i hi => ?_, fun _ => ?_, fun z => absurd z (by decide)⟩
  · rw [show 20 * 0 + i / 8 = i / 8 by omega, h (i / 8) (by omega), by_pgv (fun i => enc_lt v0_ok (by omega) i) (by omega), show 8 * (i / 8) + i % 8 = i by omega]
  · rw [h20, by64_z]; decide
theorem rSv_0 : ∀ m {c : CH}, rSv m c v0 = (true, c, v0) := by
  intro m
  induction m with
  | zero => intro c; rfl
  | succ m ih =>
    intro c
    have h0 : ¬ vG v0 (7 - m) = true := fun z => Bool.noConfusion z
    rw [rSv_f (fun z => h0 z.1), aSv_f h0]
    exact ih
theorem rWA_0 (hz : ∀ p, c.2.2.2 p = 0) : (rWA c v0 1 255).2.2 = v0 ∧ ((rWA c v0 1 255).1 = false → OIMG (rWA c v0 1 255).2.1.2.2.2) ∧ ((rWA c v0 1 255).1 = true → IMG 0 0 (rWA c v0 1 255).2.1.2.2.2) := by
  have h8 := rSv_0 8 (c := c)
  have e : rWA c v0 1 255 = ((rWr 0 (enc v0 0) 20 c).1, (rWr 0 (enc v0 0) 20 c).2, v0) := by
    rw [rWA_f (by rw [h8]; exact fun z => Bool.noConfusion z), h8]
  rw [e]
  dsimp only
  refine ⟨rfl, fun _ => ?_, fun z => ?_⟩
  · have hS := rWr_S (oc := 0) (e := enc v0 0) (S := fun p y => y = 0 ∨ p = 19 ∧ y = pgv (enc v0 0) 19) (fun x hx => by
      by_cases h : x < 19
      · exact Or.inl (pgv_0 h)
      · obtain rfl : x = 19 := by omega
        exact Or.inr ⟨rfl, rfl⟩) 20 (c := c) (fun p => Or.inl (hz p))
    by_cases h19 : (rWr 0 (enc v0 0) 20 c).2.2.2.2 19 = 0
    · refine Or.inl (fun p hp => ?_)
      rcases hS p with h | ⟨rfl, h⟩
      · exact h
      · exact h19
    · refine (IMG.zero ?_ (fun x hx => ?_)).OI (by omega) (by omega)
      · rcases hS 20 with h | ⟨h, -⟩
        · exact h
        · exact absurd h (by decide)
      · by_cases h : x < 19
        · rw [pgv_0 h]
          rcases hS x with h | ⟨h, -⟩
          · exact h
          · omega
        · obtain rfl : x = 19 := by omega
          rcases hS 19 with h | ⟨-, h⟩
          · exact absurd h h19
          · exact h
  · refine IMG.zero ((rWr_keep 20 20 (fun k hk => by omega)).trans (hz 20)) (fun x hx => ?_)
    by_cases x0 : x = 0
    · have := rWr_all 20 (by omega) z 0 (by omega)
      rw [x0]
      exact this
    · have := rWr_all 20 (by omega) z (20 - x) (by omega)
      rw [show 20 * 0 + (20 - (20 - x)) % 20 = x by omega, show (20 - (20 - x)) % 20 = x by omega] at this
      exact this
end
end PU21
