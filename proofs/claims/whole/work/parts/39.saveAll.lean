section PU19
/-! the reference: all saved -/
def mF (c : CH) (cur t : Nat) (bd : Nat → Int32) (I : am_MI) (J : am_MJ) : Prop := mO c bd I J ∧ (∃ v, vOK v ∧ rmV v I J) ∧ I 28 15 = nI cur ∧ I 28 16 = nI t
section
variable {c c' : CH} {v v' : VT} {cur t : Nat} {q : QT} {bd : Nat → Int32} {e : Nat → Nat} {I I' : am_MI} {J J' : am_MJ}
theorem mS.fl (hv : vOK v) (hm : mS c v cur t q bd I J) : mF c cur t bd (am_ui I 28 7 0) J :=
  ⟨hm.off, ⟨v, hv, hm.2.1.mv (fun k _ _ => pu_k (by omega) ..) (fun _ _ _ => rfl)⟩, (pu_f (by decide) ..).trans hm.2.2.2.1, (pu_f (by decide) ..).trans hm.2.2.2.2.1⟩
theorem mF.g (hm : mF c cur t bd I J) {f : Nat} (hf : f < 8) : mF c cur t bd (am_ui I 36 f 0) J := by
  obtain ⟨a1, ⟨v, hv, a2⟩, a3, a4⟩ := hm
  exact ⟨a1.ui (by omega) (by omega) _ _, ⟨vSv v f, hv.sv, a2.g hf⟩, by rw [pu_k (by omega)]; exact a3, by rw [pu_k (by omega)]; exact a4⟩
theorem mF.i3 (hm : mF c cur t bd I J) (g : ∀ k, k ≠ 38 → k ≠ 39 → I' k = I k) : mF c cur t bd I' J := by
  obtain ⟨a1, ⟨v, hv, a2⟩, a3, a4⟩ := hm
  exact ⟨a1.mv (g 29 (by decide) (by decide)) (fun f _ => by rw [g 28 (by decide) (by decide)]) rfl rfl, ⟨v, hv, a2.k3 g⟩, by rw [g 28 (by decide) (by decide)]; exact a3, by rw [g 28 (by decide) (by decide)]; exact a4⟩
theorem mS.i3 (hm : mS c v cur t q bd I J) (g : ∀ k, k ≠ 38 → k ≠ 39 → I' k = I k) : mS c v cur t q bd I' J :=
  hm.vw (hm.2.1.k3 g) (g 28 (by decide) (by decide)) (g 29 (by decide) (by decide)) (g 40 (by decide) (by decide)) (g 41 (by decide) (by decide)) rfl rfl rfl rfl
theorem kB.i3 (k : kB I J I' J') {I2 : am_MI} (g : ∀ k, k ≠ 38 → k ≠ 39 → I2 k = I' k) : kB I J I2 J' := ⟨fun x hx => (g x (by omega) (by omega)).trans (k.1 x hx), k.2⟩
theorem s_M_saveX {Q : am_MI → am_MJ → Prop} {X : String → am_MI → am_MJ → Prop} {f : Nat} (hv : vOK v) (hb : mS c v cur t q bd I J) (hf : f < 8)
    (hx : oSv c v f → ∀ I' J', mF c cur t bd I' J' → kB I J I' J' → Q I' J')
    (hq : ¬ oSv c v f → ∀ I' J', mS (aSv c v f).1 (aSv c v f).2 cur t q bd I' J' → kB I J I' J' → Q I' J') : w_M_save (nI f) I J Q X := by
  unfold w_M_save
  have hc := hb.2.1
  rw [nI_clamp (by omega), hc.2.2.2.2.2.1 f hf, hc.2.2.2.1 f hf, bI0]
  have hin : vp_in (nI f) 8 := vp_in_nI hf (by omega)
  refine ⟨hin, fun e => ?_, fun e => ?_⟩
  · have e1 : ¬ vG v f = true := by rw [e]; decide
    refine hq (fun z => e1 z.1) I J ?_ kB.rf
    rw [aSv_f e1]
    exact hb
  · have e1 : vG v f = true := by
      cases h : vG v f
      · exact absurd h e
      · rfl
    have hw := hv.2.2.2.2 f hf e1
    rw [hc.2.2.2.2.1 f hf hw, if_neg hw]
    refine ⟨hin, hin, s_M_write hb.1 hb.2.2.2.2.2.1 (hv.win hf hw).2 (fun h => ⟨hin, hx ⟨e1, h⟩ _ _ ((hb.fl hv).g hf) ((kB.rf.ui (by omega) _ _).ui (by omega) _ _)⟩) (fun h I' J' h3 h3' h4 => ⟨hin, hq (fun z => h z.2) _ _ ?_ (h4.kB.ui (by omega) _ _)⟩)⟩
    rw [aSv_t e1]
    have := hb.go h3 h3' h4
    exact this.vw (this.2.1.g hf) (pu_k (by omega) ..) (pu_k (by omega) ..) (pu_k (by omega) ..) (pu_k (by omega) ..) rfl rfl rfl rfl
theorem s_M_saveF {Q : am_MI → am_MJ → Prop} {X : String → am_MI → am_MJ → Prop} {f : Nat} (hb : mF c cur t bd I J) (hf : f < 8)
    (hq : ∀ I' J', mF c cur t bd I' J' → kB I J I' J' → Q I' J') : w_M_save (nI f) I J Q X := by
  unfold w_M_save
  have hin : vp_in (nI f) 8 := vp_in_nI hf (by omega)
  rw [nI_clamp (by omega)]
  exact ⟨hin, fun e => hq I J hb kB.rf, fun e => ⟨hin, hin, s_M_writeOff hb.1.2.1 ⟨hin, hq _ _ (hb.g hf) (kB.rf.ui (by omega) _ _)⟩⟩⟩
/-- a page's value put together -/
theorem s_M_page {Q : am_MI → am_MJ → Prop} {X : String → am_MI → am_MJ → Prop} {P2 P44 : Int32 → am_MI → am_MJ → Prop} {oc y : Nat} {x2 x3 : Int32} (hy : y < 20) (he : ∀ i, e i < 256) (hr : rJ e I)
    (hq : w_M_write (nI (20 * oc + y)) (pgv e y) I J (fun I10 J11 => P44 (x3 + 1) I10 J11) X) : w_M_saveAll_63 (nI oc) x2 x3 (nI y) 0 7 I J Q X P2 P44 := by
  unfold w_M_saveAll_63
  intro P hP
  have key : ∀ m (x : Int64), m ≤ 7 → (∀ j, j < 7 - m → by64 x j = e (8 * y + (m + 1 + j))) → P x (nI m) I J := by
    intro m
    induction m with
    | zero =>
      intro x hm hx
      refine hP _ _ _ _ (br_f (by decide) ?_)
      rw [show (8 : Int32) * nI y + nI 0 = nI (8 * y + 0) by rw [show (8 : Int32) = nI 8 from rfl, pk_mul, nI_add], nI_clamp (by omega), hr (8 * y + 0) (by omega), nI_l (by have := he (8 * y + 0); omega)]
      refine ⟨vp_in_nI (by omega) (by omega), hP _ _ _ _ (br_t (by decide) ?_)⟩
      rw [show (20 : Int32) * nI oc + nI y = nI (20 * oc + y) by rw [show (20 : Int32) = nI 20 from rfl, pk_mul, nI_add]]
      have : (x <<< ((8 : Int32).toInt64 &&& 63)) ||| lN (e (8 * y + 0)) = pgv e y := by
        refine pgv_of he (fun j hj => ?_)
        rw [by64_sh (he _) j hj]
        by_cases e0 : j = 0
        · rw [if_pos e0, e0]
        · rw [if_neg e0, hx (j - 1) (by omega), show 0 + 1 + (j - 1) = j by omega]
      rw [this]
      exact hq
    | succ m ih =>
      intro x hm hx
      refine hP _ _ _ _ (br_f (nI_pos (by omega)) ?_)
      rw [show (8 : Int32) * nI y + nI (m + 1) = nI (8 * y + (m + 1)) by rw [show (8 : Int32) = nI 8 from rfl, pk_mul, nI_add], nI_clamp (by omega), hr (8 * y + (m + 1)) (by omega), nI_l (by have := he (8 * y + (m + 1)); omega), pk_m1]
      refine ⟨vp_in_nI (by omega) (by omega), ih _ (by omega) (fun j hj => ?_)⟩
      rw [by64_sh (he _) j (by omega)]
      by_cases e0 : j = 0
      · rw [if_pos e0, e0]
      · rw [if_neg e0, hx (j - 1) (by omega), show m + 1 + 1 + (j - 1) = m + 1 + j by omega]
  exact key 7 0 (by omega) (fun j hj => absurd hj (by omega))
theorem mF.hold {Q : am_MI → am_MJ → Prop} {X : String → am_MI → am_MJ → Prop} {x1 x2 : Int32} (hm : mF c cur t bd I J) (hq : ∀ I', mO c bd I' J → kB I J I' J → Q I' J) : w_M_hold (am_ui (am_ui I 28 15 x1) 28 16 x2) J (fun I6 J7 => Q I6 J7) X := by
  obtain ⟨a1, ⟨v, hv, a2⟩, a3, a4⟩ := hm
  have k0 : ∀ k, k ≠ 28 → am_ui (am_ui I 28 15 x1) 28 16 x2 k = I k := fun k h => by rw [pu_k h, pu_k h]
  refine s_M_hold hv (a2.mv (fun k _ _ => k0 k (by omega)) (fun _ _ _ => rfl)) (fun I' g1 g2 => hq I' ?_ ⟨fun k hk => (g1 k (by omega)).trans (k0 k (by omega)), fun _ _ => rfl⟩)
  refine ((a1.u28 (f := 15) (by decide) x1).u28 (f := 16) (by decide) x2).mv (g1 29 (by decide)) (fun f _ => by rw [g1 28 (by decide)]) rfl rfl
theorem mS.tc (hm : mS c v cur t q bd I J) (a b : Nat) : mS c v a b q bd (am_ui (am_ui I 28 15 (nI a)) 28 16 (nI b)) J := by
  obtain ⟨a1, a2, a3, a4, a5, a6, a7, a8, a9⟩ := hm
  have k0 : ∀ k, k ≠ 28 → am_ui (am_ui I 28 15 (nI a)) 28 16 (nI b) k = I k := fun k h => by rw [pu_k h, pu_k h]
  have k1 : ∀ f, f ≠ 15 → f ≠ 16 → am_ui (am_ui I 28 15 (nI a)) 28 16 (nI b) 28 f = I 28 f := fun f h1 h2 => by rw [pu_f h2, pu_f h1]
  refine ⟨a1.mv (k1 4 (by decide) (by decide)) rfl (k1 6 (by decide) (by decide)) rfl, a2.mv (fun k _ _ => k0 k (by omega)) (fun _ _ _ => rfl), a3.mv (k1 20 (by decide) (by decide)) (k1 25 (by decide) (by decide)) (k0 40 (by decide)) (k0 41 (by decide)) rfl rfl, by rw [pu_f (by decide), pu_s], pu_s .., (k1 7 (by decide) (by decide)).trans a6, (k1 8 (by decide) (by decide)).trans a7, (k1 2 (by decide) (by decide)).trans a8, fun k hk => ?_⟩
  rw [k0 29 (by decide)]; exact a9 k hk
theorem s_M_saveAll {Q : am_MI → am_MJ → Prop} {X : String → am_MI → am_MJ → Prop} (hv : vOK v) (hcur : cur < 2) (ht : t < 256) (hm : mS c v cur t q bd I J)
    (hx : (rWA c v cur t).1 = false → ∀ I' J', mO (rWA c v cur t).2.1 bd I' J' → kB I J I' J' → Q I' J')
    (hq : (rWA c v cur t).1 = true → ∀ I' J', mS (rWA c v cur t).2.1 (vHd (rWA c v cur t).2.2) (1 - cur) ((t + 1) % 256) q bd I' J' → kB I J I' J' → Q I' J') : w_M_saveAll I J Q X := by
  unfold w_M_saveAll w_M_saveAll_2
  intro P hP
  have e15 : ∀ x : Int32, x = nI cur → (1 : Int32) - x = nI (1 - cur) := fun x h => by rw [h, show (1 : Int32) = nI 1 from rfl, pk_sub (by omega)]
  have e16 : ∀ x : Int32, x = nI t → (x + 1) - (x + 1) / 256 * 256 = nI ((t + 1) % 256) := fun x h => by
    rw [h, nI_1]
    exact pk_rem (d := 256) (by omega) (by omega) (by omega)
  have em : ∀ x, 1 ≤ x → x ≤ 20 → nI x - nI x / 20 * 20 = nI (x % 20) := fun x h1 h2 => pk_rem (d := 20) (by omega) (by omega) (by omega)
  -- the writes with the power off
  have offW : ∀ c1 e1 I1 J1, mF c1 cur t bd I1 J1 → rJ e1 I1 → (∀ i, e1 i < 256) → rWA c v cur t = (false, c1, (rWA c v cur t).2.2) → kB I J I1 J1 → ∀ P44 : Int32 → am_MI → am_MJ → Prop, (∀ (x3 : Int32) (I : am_MI) (J : am_MJ), (((21 : Int32) ≤ x3 → (w_M_hold (am_ui (am_ui I 28 15 (nI (1 - cur))) 28 16 (nI ((t + 1) % 256))) J (fun (I6 : am_MI) (J7 : am_MJ) => Q I6 J7) X)) ∧ (¬ ((21 : Int32) ≤ x3) → (w_M_saveAll_63 (nI (1 - cur)) (nI ((t + 1) % 256)) x3 (x3 - x3 / (20 : Int32) * (20 : Int32)) (0 : Int64) (7 : Int32) I J Q X P P44))) → P44 x3 I J) → ∀ m x, x + m = 21 → 1 ≤ x → P44 (nI x) I1 J1 := by
    intro c1 e1 I1 J1 hF hr he hW k1 P44 h44 m
    induction m with
    | zero =>
      intro x hx21 hx1
      obtain rfl : x = 21 := by omega
      exact h44 _ _ _ (br_t (nI_le (a := 21) (by omega) (by omega)) (hF.hold (fun I' g1 g2 => hx (by rw [hW]) I' J1 (by rw [hW]; exact g1) (k1.tr g2))))
    | succ m ih =>
      intro x hx21 hx1
      refine h44 _ _ _ (br_f (nI_ge (b := 21) (by omega) (by omega)) ?_)
      rw [em x hx1 (by omega)]
      refine s_M_page (by omega) he hr (s_M_writeOff hF.1.2.1 ?_)
      rw [nI_1]
      exact ih (x + 1) (by omega) (by omega)
  -- off among the saves
  have offS : ∀ m f c1 I1 J1, f + m = 8 → mF c1 cur t bd I1 J1 → rWA c v cur t = (false, c1, (rWA c v cur t).2.2) → kB I J I1 J1 → P (nI f) I1 J1 := by
    intro m
    induction m with
    | zero =>
      intro f c1 I1 J1 hf hF hW k1
      obtain rfl : f = 8 := by omega
      refine hP _ _ _ (br_t (nI_le (a := 8) (by omega) (by omega)) ?_)
      obtain ⟨v2, hv2, hr2⟩ := hF.2.1
      rw [e15 _ hF.2.2.1, e16 _ hF.2.2.2]
      refine s_M_makeImage (by omega) hv2 hr2 (fun I2 g1 g2 => ?_)
      unfold w_M_saveAll_44
      intro P44 h44
      exact offW c1 _ I2 J1 (hF.i3 g1) g2 (fun i => enc_lt hv2 (by omega) i) hW (k1.i3 g1) P44 h44 20 1 (by omega) (by omega)
    | succ m ih =>
      intro f c1 I1 J1 hf hF hW k1
      refine hP _ _ _ (br_f (nI_ge (b := 8) (by omega) (by omega)) ?_)
      rw [nI_1]
      exact s_M_saveF hF (by omega) (fun I2 J2 g1 g2 => ih (f + 1) c1 I2 J2 (by omega) g1 hW (k1.tr g2))
  have key : ∀ m f c1 v1 I1 J1, f + m = 8 → vOK v1 → rSv 8 c v = rSv m c1 v1 → mS c1 v1 cur t q bd I1 J1 → kB I J I1 J1 → P (nI f) I1 J1 := by
    intro m
    induction m with
    | zero =>
      intro f c1 v1 I1 J1 hf hv1 hw hm1 k1
      obtain rfl : f = 8 := by omega
      refine hP _ _ _ (br_t (nI_le (a := 8) (by omega) (by omega)) ?_)
      have hw : rSv 8 c v = (true, c1, v1) := hw
      have hWA : rWA c v cur t = ((rWr (1 - cur) (enc v1 ((t + 1) % 256)) 20 c1).1, (rWr (1 - cur) (enc v1 ((t + 1) % 256)) 20 c1).2, v1) := by
        unfold rWA
        rw [hw, if_neg (fun z => Bool.noConfusion z)]
      rw [e15 _ hm1.2.2.2.1, e16 _ hm1.2.2.2.2.1]
      refine s_M_makeImage (by omega) hv1 hm1.2.1 (fun I2 g1 g2 => ?_)
      unfold w_M_saveAll_44
      intro P44 h44
      have he : ∀ i, enc v1 ((t + 1) % 256) i < 256 := fun i => enc_lt hv1 (by omega) i
      have kw : ∀ m x c2 I3 J3, x + m = 21 → 1 ≤ x → rWr (1 - cur) (enc v1 ((t + 1) % 256)) 20 c1 = rWr (1 - cur) (enc v1 ((t + 1) % 256)) m c2 → mS c2 v1 cur t q bd I3 J3 → rJ (enc v1 ((t + 1) % 256)) I3 → kB I J I3 J3 → P44 (nI x) I3 J3 := by
        intro m
        induction m with
        | zero =>
          intro x c2 I3 J3 hx21 hx1 hr hm3 hj k3
          obtain rfl : x = 21 := by omega
          have hr : rWr (1 - cur) (enc v1 ((t + 1) % 256)) 20 c1 = (true, c2) := hr
          have hm4 := hm3.tc (1 - cur) ((t + 1) % 256)
          refine h44 _ _ _ (br_t (nI_le (a := 21) (by omega) (by omega)) (s_M_hold hv1 hm4.2.1 (fun I4 g3 g4 => hq (by rw [hWA, hr]) I4 J3 ?_ ?_)))
          · rw [hWA, hr]
            exact hm4.vw g4 (g3 28 (by decide)) (g3 29 (by decide)) (g3 40 (by decide)) (g3 41 (by decide)) rfl rfl rfl rfl
          · have := (k3.ui (k := 28) (by omega) 15 (nI (1 - cur))).ui (k := 28) (by omega) 16 (nI ((t + 1) % 256))
            exact ⟨fun k hk => (g3 k (by omega)).trans (this.1 k hk), this.2⟩
        | succ m ih =>
          intro x c2 I3 J3 hx21 hx1 hr hm3 hj k3
          refine h44 _ _ _ (br_f (nI_ge (b := 21) (by omega) (by omega)) ?_)
          rw [em x hx1 (by omega)]
          refine s_M_page (by omega) he hj (s_M_write hm3.1 hm3.2.2.2.2.2.1 (by omega) (fun h0 => ?_) (fun h0 I4 J4 g3 g4 g5 => ?_))
          · rw [rWr_t h0] at hr
            rw [nI_1]
            exact offW c2 _ _ J3 (hm3.fl hv1) (fun i hi => by rw [pu_k (by decide)]; exact hj i hi) he (by rw [hWA, hr]) (k3.ui (by omega) _ _) P44 h44 m (x + 1) (by omega) (by omega)
          · rw [rWr_f h0, show 20 - m = x by omega] at hr
            rw [nI_1]
            exact ih (x + 1) _ I4 J4 (by omega) (by omega) hr (hm3.go g3 g4 g5) (fun i hi => by rw [g5.1 38 (by decide)]; exact hj i hi) (k3.tr g5.kB)
      exact kw 20 1 c1 I2 J1 (by omega) (by omega) rfl (hm1.i3 g1) g2 (k1.i3 g1)
    | succ m ih =>
      intro f c1 v1 I1 J1 hf hv1 hw hm1 k1
      obtain rfl : f = 7 - m := by omega
      refine hP _ _ _ (br_f (nI_ge (b := 8) (by omega) (by omega)) ?_)
      rw [nI_1]
      refine s_M_saveX hv1 hm1 (by omega) (fun o I2 J2 g1 g2 => ?_) (fun o I2 J2 g1 g2 => ?_)
      · rw [rSv_t o] at hw
        have hWA : rWA c v cur t = (false, c1, v1) := by
          unfold rWA
          rw [hw, if_pos rfl]
        exact offS m (7 - m + 1) c1 I2 J2 (by omega) g1 (by rw [hWA]) (k1.tr g2)
      · rw [rSv_f o] at hw
        exact ih (7 - m + 1) _ _ I2 J2 (by omega) hv1.asv hw g1 (k1.tr g2)
  exact key 8 0 c v I J (by omega) hv rfl hm kB.rf
end
end PU19
