section PU18
/-! all that is changed written: windows, then the other image -/
noncomputable def vHd (v : VT) : VT := (vN v, vL v, vC v, vW v, vB v, vG v, fun p => @decide (used v p) (Classical.propDecidable _))
def vHx (v : VT) (h : Nat → Bool) : VT := (vN v, vL v, vC v, vW v, vB v, vG v, h)
def rSv : Nat → CH → VT → Bool × CH × VT
  | 0, c, v => (true, c, v)
  | m + 1, c, v => if vG v (7 - m) = true ∧ c.2.2.1 = 0 then (false, c, v) else rSv m (aSv c v (7 - m)).1 (aSv c v (7 - m)).2
def rWr (oc : Nat) (e : Nat → Nat) : Nat → CH → Bool × CH
  | 0, c => (true, c)
  | m + 1, c => if c.2.2.1 = 0 then (false, c) else rWr oc e m (ch_wr c (20 * oc + (20 - m) % 20) (pgv e ((20 - m) % 20)))
noncomputable def rWA (c : CH) (v : VT) (cur t : Nat) : Bool × CH × VT :=
  if (rSv 8 c v).1 = false then rSv 8 c v else ((rWr (1 - cur) (enc (rSv 8 c v).2.2 ((t + 1) % 256)) 20 (rSv 8 c v).2.1).1, (rWr (1 - cur) (enc (rSv 8 c v).2.2 ((t + 1) % 256)) 20 (rSv 8 c v).2.1).2, (rSv 8 c v).2.2)
section
variable {c c' : CH} {v v' : VT} {cur t : Nat} {q : QT} {bd : Nat → Int32} {e : Nat → Nat} {I I' : am_MI} {J J' : am_MJ}
theorem rSv_t {m : Nat} (h : oSv c v (7 - m)) : rSv (m + 1) c v = (false, c, v) := if_pos h
theorem rSv_f {m : Nat} (h : ¬ oSv c v (7 - m)) : rSv (m + 1) c v = rSv m (aSv c v (7 - m)).1 (aSv c v (7 - m)).2 := if_neg h
theorem rWr_t {oc m : Nat} (h : c.2.2.1 = 0) : rWr oc e (m + 1) c = (false, c) := if_pos h
theorem rWr_f {oc m : Nat} (h : ¬ c.2.2.1 = 0) : rWr oc e (m + 1) c = rWr oc e m (ch_wr c (20 * oc + (20 - m) % 20) (pgv e ((20 - m) % 20))) := if_neg h
theorem vOK.rsv : ∀ m {c : CH} {v : VT}, vOK v → vOK (rSv m c v).2.2 := by
  intro m
  induction m with
  | zero => intro c v h; exact h
  | succ m ih =>
    intro c v h
    by_cases o : oSv c v (7 - m)
    · rw [rSv_t o]; exact h
    · rw [rSv_f o]; exact ih h.asv
theorem rSv_40 : ∀ m {c : CH} {v : VT}, m ≤ 8 → vOK v → ∀ p, p < 40 → (rSv m c v).2.1.2.2.2 p = c.2.2.2 p := by
  intro m
  induction m with
  | zero => intro c v _ h p hp; rfl
  | succ m ih =>
    intro c v hm h p hp
    by_cases o : oSv c v (7 - m)
    · rw [rSv_t o]
    · rw [rSv_f o, ih (by omega) h.asv p hp, aSv_40 h (by omega) p hp]
theorem vOK.hd (h : vOK v) : vOK (vHd v) := h
theorem vOK.hx (h : vOK v) {g : Nat → Bool} : vOK (vHx v g) := h
theorem rcV.hd (h : rcV v I J) (h1 : ∀ k, k ≠ 16 → I' k = I k) (h2 : ∀ p, p < 101 → I' 16 p = I 15 p) : rcV (vHd v) I' J := by
  obtain ⟨a1, a2, a3, a4, a5, a6, a7, a8, a9, a10⟩ := h
  refine ⟨fun f hf => ?_, fun f hf => ?_, fun f hf => ?_, fun f hf => ?_, a5, fun f hf => ?_, fun f hf i hi => ?_, fun p hp hn => ?_, fun p hp => ?_, fun p hp => ?_⟩
  · rw [h1 (6 + f) (by omega)]; exact a1 f hf
  · rw [h1 (6 + f) (by omega)]; exact a2 f hf
  · rw [h1 (6 + f) (by omega)]; exact a3 f hf
  · rw [h1 (6 + f) (by omega)]; exact a4 f hf
  · rw [h1 (6 + f) (by omega)]; exact a6 f hf
  · rw [h1 14 (by omega)]; exact a7 f hf i hi
  · rw [h1 14 (by omega)]; exact a8 p hp hn
  · rw [h1 15 (by omega)]; exact a9 p hp
  · rw [h2 p hp]
    show _ = bI (@decide (used v p) (Classical.propDecidable _))
    by_cases u : used v p
    · rw [(a9 p hp).1 u, @decide_eq_true _ (Classical.propDecidable _) u]; rfl
    · rw [(a9 p hp).2 u, @decide_eq_false _ (Classical.propDecidable _) u]; rfl
theorem s_D_holdOwned {Q : am_MI → am_MJ → Prop} {X : String → am_MI → am_MJ → Prop} (hc : rcV v I J)
    (hq : ∀ I', (∀ k, k ≠ 16 → I' k = I k) → rcV (vHd v) I' J → Q I' J) : w_D_holdOwned I J Q X := by
  unfold w_D_holdOwned w_D_holdOwned_2
  intro P hP
  have key : ∀ m x I1, x + m = 101 → (∀ k, k ≠ 16 → I1 k = I k) → (∀ p, p < x → I1 16 p = I 15 p) → P (nI x) I1 J := by
    intro m
    induction m with
    | zero =>
      intro x I1 hx k1 k2
      obtain rfl : x = 101 := by omega
      exact hP _ _ _ (br_t (nI_le (a := 101) (by omega) (by omega)) (hq I1 k1 (hc.hd k1 k2)))
    | succ m ih =>
      intro x I1 hx k1 k2
      have h15 : vp_nar .boolean (I1 15 x) = I 15 x := by
        rw [k1 15 (by decide)]
        by_cases u : used v x
        · rw [(hc.2.2.2.2.2.2.2.2.1 x (by omega)).1 u]; rfl
        · rw [(hc.2.2.2.2.2.2.2.2.1 x (by omega)).2 u]; rfl
      refine hP _ _ _ (br_f (nI_ge (b := 101) (by omega) (by omega)) ⟨vp_in_nI (by omega) (by omega), vp_in_nI (by omega) (by omega), ?_⟩)
      rw [nI_clamp (by omega), nI_1, h15]
      refine ih (x + 1) _ (by omega) (fun k hk => (pu_k hk ..).trans (k1 k hk)) (fun p hp => ?_)
      by_cases ep : p = x
      · rw [ep, pu_s]
      · rw [pu_f ep]; exact k2 p (by omega)
  exact key 101 0 I (by omega) (fun _ _ => rfl) (fun p hp => absurd hp (by omega))
theorem s_M_hold {Q : am_MI → am_MJ → Prop} {X : String → am_MI → am_MJ → Prop} (hv : vOK v) (hm : rmV v I J)
    (hq : ∀ I', (∀ k, k ≠ 37 → I' k = I k) → rmV (vHd v) I' J → Q I' J) : w_M_hold I J Q X := by
  unfold w_M_hold w_M_hold_2
  intro P hP
  have up : ∀ I1 (h : Nat → Bool), (∀ k, k ≠ 37 → I1 k = I k) → (∀ p, p < 101 → I1 37 p = bI (h p)) → rmV (vHx v h) I1 J := by
    intro I1 h g1 g2
    obtain ⟨a1, a2, a3, a4, a5, a6, a7⟩ := hm
    refine ⟨fun f hf => ?_, fun f hf => ?_, fun f hf i hi => ?_, fun f hf => ?_, a5, fun f hf => ?_, g2⟩
    · rw [g1 31 (by decide)]; exact a1 f hf
    · rw [g1 32 (by decide)]; exact a2 f hf
    · rw [g1 33 (by decide)]; exact a3 f hf i hi
    · rw [g1 34 (by decide)]; exact a4 f hf
    · rw [g1 36 (by decide)]; exact a6 f hf
  have key : ∀ m x I1, x + m = 101 → (∀ k, k ≠ 37 → I1 k = I k) → (∀ p, p < 101 → I1 37 p = bI (if p < x then vH (vHd v) p else vH v p)) → P (nI x) I1 J := by
    intro m
    induction m with
    | zero =>
      intro x I1 hx k1 k2
      obtain rfl : x = 101 := by omega
      exact hP _ _ _ (br_t (nI_le (a := 101) (by omega) (by omega)) (hq I1 k1 (up I1 (vH (vHd v)) k1 (fun p hp => by rw [k2 p hp, if_pos hp]))))
    | succ m ih =>
      intro x I1 hx k1 k2
      have go : ∀ y : Int32, y = bI (vH (vHd v) x) → vp_in (nI x) 101 ∧ (P (nI x + 1) (am_ui I1 37 (nI x).toNatClampNeg (vp_nar .boolean y)) J) := by
        intro y hy
        have hn : vp_nar .boolean y = bI (vH (vHd v) x) := by
          rw [hy]
          cases vH (vHd v) x <;> rfl
        refine ⟨vp_in_nI (by omega) (by omega), ?_⟩
        rw [nI_clamp (by omega), nI_1, hn]
        refine ih (x + 1) _ (by omega) (fun k hk => (pu_k hk ..).trans (k1 k hk)) (fun p hp => ?_)
        by_cases ep : p = x
        · rw [ep, pu_s, if_pos (by omega)]
        · rw [pu_f ep, k2 p hp]
          by_cases h : p < x
          · rw [if_pos h, if_pos (by omega)]
          · rw [if_neg h, if_neg (by omega)]
      refine hP _ _ _ (br_f (nI_ge (b := 101) (by omega) (by omega)) (s_M_isUsed (v := vHx v (fun p => if p < x then vH (vHd v) p else vH v p)) hv.hx (up I1 _ k1 k2) (by omega) (fun u => go 1 ?_) (fun u => go 0 ?_)))
      · have u : used v x := u
        show _ = bI (@decide (used v x) (Classical.propDecidable _))
        rw [@decide_eq_true _ (Classical.propDecidable _) u]; rfl
      · have u : ¬ used v x := u
        show _ = bI (@decide (used v x) (Classical.propDecidable _))
        rw [@decide_eq_false _ (Classical.propDecidable _) u]; rfl
  exact key 101 0 I (by omega) (fun _ _ => rfl) (fun p hp => by rw [if_neg (by omega)]; exact hm.2.2.2.2.2.2 p hp)
/-! the class -/
theorem s_B_wr {Q : am_MI → am_MJ → Prop} {X : String → am_MI → am_MJ → Prop} {oc : Nat} {x1 x2 : Int32} (ho : oc < 2) (he : ∀ i, e i < 256) (hb : bS c v cur t q bd I J) (hr : rI oc e J)
    (hx : (rWr oc e 20 c).1 = false → ∀ I' J', bO (rWr oc e 20 c).2 bd I' J' → kM I J I' J' → X "java/lang/IllegalStateException" I' J')
    (hq : (rWr oc e 20 c).1 = true → ∀ I' J', bS (rWr oc e 20 c).2 v cur t q bd I' J' → kM I J I' J' → Q (am_ui (am_ui I' 0 6 x1) 0 7 x2) J') : w_B_writeOtherImage_43 x1 x2 oc (nI (oc * 20)) 1 I J Q X := by
  unfold w_B_writeOtherImage_43
  intro P hP
  have hpg : ∀ J1 : am_MJ, J1 (25 + 2 * oc) = J (25 + 2 * oc) → ∀ x, x < 20 → J1 (25 + 2 * oc) x = pgv e x := by
    intro J1 h1 x hx
    rw [h1]
    refine pgv_of he (fun j hj => ?_)
    have := hr (8 * x + j) (by omega)
    rw [show (8 * x + j) / 8 = x by omega, show (8 * x + j) % 8 = j by omega] at this
    exact this
  have key : ∀ m x c1 I1 J1, x + m = 20 → 1 ≤ x → rWr oc e 20 c = rWr oc e (m + 1) c1 → bS c1 v cur t q bd I1 J1 → kM I J I1 J1 → J1 (25 + 2 * oc) = J (25 + 2 * oc) → P (nI x) I1 J1 := by
    intro m
    induction m with
    | zero =>
      intro x c1 I1 J1 hx20 hx1 hw hb1 k1 j1
      obtain rfl : x = 20 := by omega
      refine hP _ _ _ (br_t (nI_le (a := 20) (by omega) (by omega)) ⟨vp_in_nI (n := 0) (by omega) (by omega), ?_⟩)
      rw [show (0 : Int32).toNatClampNeg = 0 from rfl, hpg J1 j1 0 (by omega)]
      refine s_B_writePage hb1.1 (by omega) (fun h0 => ?_) (fun h0 I2 J2 g1 g2 => ?_)
      · rw [rWr_t h0] at hw
        exact hx (by rw [hw]) _ _ (by rw [hw]; exact hb1.off) (k1.ui (by omega) _ _)
      · rw [rWr_f h0] at hw
        have hw : rWr oc e 20 c = (true, ch_wr c1 (oc * 20) (pgv e 0)) := by rw [hw, Nat.mul_comm]; rfl
        exact hq (by rw [hw]) _ _ (by rw [hw]; exact hb1.go g1 g2) (k1.tr g2.kM)
    | succ m ih =>
      intro x c1 I1 J1 hx20 hx1 hw hb1 k1 j1
      refine hP _ _ _ (br_f (nI_ge (b := 20) (by omega) (by omega)) ⟨vp_in_nI (by omega) (by omega), ?_⟩)
      rw [nI_clamp (by omega), hpg J1 j1 x (by omega), nI_add, nI_1]
      refine s_B_writePage hb1.1 (by omega) (fun h0 => ?_) (fun h0 I2 J2 g1 g2 => ?_)
      · rw [rWr_t h0] at hw
        exact hx (by rw [hw]) _ _ (by rw [hw]; exact hb1.off) (k1.ui (by omega) _ _)
      · rw [rWr_f h0, show (20 - (m + 1)) % 20 = x by omega, Nat.mul_comm] at hw
        exact ih (x + 1) _ I2 J2 (by omega) (by omega) hw (hb1.go g1 g2) (k1.tr g2.kM) ((g2.2.2.2 _ (by omega) (by omega)).trans j1)
  exact key 19 1 c I J (by omega) (by omega) rfl hb kM.rf rfl
theorem bS.j (hb : bS c v cur t q bd I J) {z : Nat} (hz : z < 2) (g : ∀ k, k ≠ 25 + 2 * z → J' k = J k) : bS c v cur t q bd I J' := by
  obtain ⟨a1, a2, a3, a4, a5, a6, a7, a8⟩ := hb
  exact ⟨a1.mv rfl (by rw [g 1 (by omega)]) rfl (g 2 (by omega)), a2.mv (fun k _ _ => rfl) (fun k _ _ => g k (by omega)), a3.mv rfl rfl rfl (g 20 (by omega)) (g 22 (by omega)), a4, a5, a6, a7, a8⟩
theorem bS.tc (hb : bS c v cur t q bd I J) (a b : Nat) : bS c v a b q bd (am_ui (am_ui I 0 6 (nI a)) 0 7 (nI b)) J := by
  obtain ⟨a1, a2, a3, a4, a5, a6, a7, a8⟩ := hb
  have k0 : ∀ k, k ≠ 0 → am_ui (am_ui I 0 6 (nI a)) 0 7 (nI b) k = I k := fun k h => by rw [pu_k h, pu_k h]
  have k1 : ∀ f, f ≠ 6 → f ≠ 7 → am_ui (am_ui I 0 6 (nI a)) 0 7 (nI b) 0 f = I 0 f := fun f h1 h2 => by rw [pu_f h2, pu_f h1]
  refine ⟨a1.mv (by rw [k0 1 (by decide)]) rfl (k1 5 (by decide) (by decide)) rfl, a2.mv (fun k _ _ => k0 k (by omega)) (fun _ _ _ => rfl), a3.mv (k0 17 (by decide)) (k0 18 (by decide)) (k0 19 (by decide)) rfl rfl, by rw [pu_f (by decide), pu_s], pu_s .., (k1 4 (by decide) (by decide)).trans a6, by rw [k0 1 (by decide)]; exact a7, fun k hk => ?_⟩
  rw [k0 3 (by decide)]; exact a8 k hk
theorem s_B_writeAll {Q : Int32 → am_MI → am_MJ → Prop} {X : String → am_MI → am_MJ → Prop} (hv : vOK v) (hcur : cur < 2) (ht : t < 256) (hb : bS c v cur t q bd I J)
    (hx : (rWA c v cur t).1 = false → ∀ I' J', bO (rWA c v cur t).2.1 bd I' J' → kM I J I' J' → X "java/lang/IllegalStateException" I' J')
    (hq : (rWA c v cur t).1 = true → ∀ I' J', bS (rWA c v cur t).2.1 (vHd (rWA c v cur t).2.2) (1 - cur) ((t + 1) % 256) q bd I' J' → kM I J I' J' → Q ((rWA c v cur t).2.1.2.1 - c.2.1).toInt32 I' J') : w_B_writeAll I J Q X := by
  unfold w_B_writeAll w_B_writeAll_10
  intro P hP
  rw [hb.1.2.2.1] at hP
  have key : ∀ m f c1 v1 I1 J1, f + m = 8 → vOK v1 → rSv 8 c v = rSv m c1 v1 → bS c1 v1 cur t q bd I1 J1 → kM I J I1 J1 → P (nI f) I1 J1 := by
    intro m
    induction m with
    | zero =>
      intro f c1 v1 I1 J1 hf hv1 hw hb1 k1
      obtain rfl : f = 8 := by omega
      refine hP _ _ _ (br_t (nI_le (a := 8) (by omega) (by omega)) ?_)
      unfold w_B_writeOtherImage
      have e6 : (1 : Int32) - I1 0 6 = nI (1 - cur) := by rw [hb1.2.2.2.1, show (1 : Int32) = nI 1 from rfl, pk_sub (by omega)]
      have e7 : (I1 0 7 + 1) &&& (255 : Int32) = nI ((t + 1) % 256) := by
        rw [hb1.2.2.2.2.1, nI_1]
        exact pk_andN (by omega) 8 rfl
      have hw : rSv 8 c v = (true, c1, v1) := hw
      have hWA : rWA c v cur t = ((rWr (1 - cur) (enc v1 ((t + 1) % 256)) 20 c1).1, (rWr (1 - cur) (enc v1 ((t + 1) % 256)) 20 c1).2, v1) := by
        unfold rWA
        rw [hw, if_neg (fun z => Bool.noConfusion z)]
      rw [e6, e7, nI_clamp (by omega)]
      refine ⟨vp_in_nI (by omega) (by omega), s_D_putInto (by omega) (by omega) hv1 hb1.2.1 (fun J2 g1 g2 => ?_)⟩
      rw [show nI (1 - cur) * 20 = nI ((1 - cur) * 20) from pk_mul _ 20]
      have hk2 : kM I J I1 J2 := ⟨k1.1, fun k hk => (g1 k (by omega)).trans (k1.2 k hk)⟩
      refine s_B_wr (e := enc v1 ((t + 1) % 256)) (by omega) (fun i => enc_lt hv1 (by omega) i) (hb1.j (by omega) g1) g2 (fun h0 I3 J3 g3 g4 => ?_) (fun h0 I3 J3 g3 g4 => ?_)
      · exact hx (by rw [hWA]; exact h0) _ _ (by rw [hWA]; exact g3) (hk2.tr g4)
      · have hb4 := g3.tc (1 - cur) ((t + 1) % 256)
        refine s_D_holdOwned hb4.2.1 (fun I5 g5 g6 => ?_)
        have hk4 : kM I J (am_ui (am_ui I3 0 6 (nI (1 - cur))) 0 7 (nI ((t + 1) % 256))) J3 := ((hk2.tr g4).ui (by omega) _ _).ui (by omega) _ _
        have hb5 := hb4.vw g6 (g5 0 (by decide)) (g5 1 (by decide)) (g5 3 (by decide)) (g5 17 (by decide)) (g5 18 (by decide)) (g5 19 (by decide)) rfl rfl rfl rfl
        have h14 : J3 1 4 = (rWA c v cur t).2.1.2.1 := by rw [hWA]; exact g3.1.2.2.1
        rw [h14]
        exact hq (by rw [hWA]; exact h0) I5 J3 (by rw [hWA]; exact hb5) ⟨fun k hk => (g5 k (by omega)).trans (hk4.1 k hk), hk4.2⟩
    | succ m ih =>
      intro f c1 v1 I1 J1 hf hv1 hw hb1 k1
      obtain rfl : f = 7 - m := by omega
      refine hP _ _ _ (br_f (nI_ge (b := 8) (by omega) (by omega)) ⟨vp_in_nI (by omega) (by omega), ?_⟩)
      rw [nI_clamp (by omega), nI_1]
      refine s_B_save hv1 hb1 (by omega) (fun o I2 J2 g1 g2 => ?_) (fun o I2 J2 g1 g2 => ?_)
      · rw [rSv_t o] at hw
        have hWA : rWA c v cur t = (false, c1, v1) := by
          unfold rWA
          rw [hw, if_pos rfl]
        exact hx (by rw [hWA]) _ _ (by rw [hWA]; exact g1) (k1.tr g2)
      · rw [rSv_f o] at hw
        exact ih (7 - m + 1) _ _ I2 J2 (by omega) hv1.asv hw g1 (k1.tr g2)
  exact key 8 0 c v I J (by omega) hv rfl hb kM.rf
end
end PU18
