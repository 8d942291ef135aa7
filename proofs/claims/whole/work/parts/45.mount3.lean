section PU25
/-! case 5 (mount) -/
theorem OIMG.v {d : Nat → Int64} (h : OIMG d) : (∀ p, p < 40 → d p = 0) ∨ ∃ v cur t, IMGv v cur t d := by
  rcases h with h | ⟨cur, hcur, t, ht, v, hv, a1, a2, a3⟩
  · exact Or.inl h
  · exact Or.inr ⟨v, cur, t, hv, hcur, ht, a1, a2, a3⟩
theorem IMGv.img {v : VT} {cur t : Nat} {d : Nat → Int64} (h : IMGv v cur t d) : IMG cur t d := ⟨v, h.1, h.2.2.2.1, h.2.2.2.2.1, h.2.2.2.2.2⟩
theorem case5 {L0 : Nat} {xs : Nat → Int32} {x4 : Int32} {I : am_MI} {J : am_MJ} (h : INV I J) : w_case5 L0 xs x4 I J INV := by
  unfold w_case5 w_B_mount
  obtain ⟨c, a1, a2, a3, a4, a5, -⟩ := h
  have hcz : ∃ c1 : CH, c1 = (c.1, c.2.1, -1, c.2.2.2) := ⟨_, rfl⟩
  obtain ⟨c1, hc1⟩ := hcz
  have hd : c1.2.2.2 = c.2.2.2 := by rw [hc1]
  have hl : c1.2.2.1 = -1 := by rw [hc1]
  refine s_B_forgetAll (fun I1 J1 i1 j1 r1 r2 => ?_)
  have k0 : ∀ k, k ≠ 0 → am_ui (am_ui I 0 4 1) 0 5 (-1) k = I k := fun k h => by rw [pu_k h, pu_k h]
  have kM1 : kM I J I1 J1 := ⟨fun k hk => (i1 k (by omega)).trans (k0 k (by omega)), fun k hk => j1 k (by omega)⟩
  have c1c : rcC c1 I1 J1 := by
    refine ⟨?_, ?_, ?_, ?_, fun p hp => ?_⟩
    · rw [hc1]; exact a1.1
    · rw [i1 1 (by omega), k0 1 (by decide), hc1]; exact a1.2.1
    · rw [j1 1 (by omega), hc1]; exact a1.2.2.1
    · rw [i1 0 (by omega), pu_s, hl]
    · rw [j1 2 (by omega), hd]; exact a1.2.2.2.2 p hp
  have e04 : I1 0 4 = 1 := by rw [i1 0 (by omega), pu_f (by decide), pu_s]
  have e12 : I1 1 2 = I 1 2 := by rw [i1 1 (by omega), k0 1 (by decide)]
  have e3 : ∀ k, k < 69 → I1 3 k = I 29 k := fun k hk => by rw [i1 3 (by omega), k0 3 (by decide)]; exact a3 k hk
  -- the reference, forgotten
  have ref : ∀ (Q : Int32 → am_MI → am_MJ → Prop) I3 J3, kM I J I3 J3 → (∀ I4, (∀ k, k < 28 → I4 k = I3 k) → rmC c1 I4 J3 → rmV v0 I4 J3 → rmQ q0 I4 J3 → I4 28 7 = 1 → I4 28 8 = 0 → I4 28 2 = I 28 2 → (∀ k, k < 69 → I4 29 k = I 29 k) → (¬ (I4 28 2) = 0 → (w_M_mount_30 (0 : Int32) I4 J3 Q FF)) ∧ ((I4 28 2) = 0 → (Q 0 I4 J3))) → w_M_mount I3 J3 Q FF := by
    intro Q I3 J3 g hw
    unfold w_M_mount
    refine s_M_forget (fun I4 i4 i5 i6 m1 m2 => ?_)
    have kf : ∀ f, f ≠ 0 → f ≠ 6 → f ≠ 7 → f ≠ 8 → f ≠ 20 → f ≠ 25 → I4 28 f = I 28 f := fun f h1 h2 h3 h4 h5 h6 => by rw [i5 f h4 h5 h6, pu_f h2, pu_f h3, pu_f h1, g.1 28 (by omega)]
    refine hw I4 (fun k hk => ?_) ⟨?_, ?_, ?_, ?_, fun p hp => ?_⟩ m1 m2 ?_ i6 (kf 2 (by decide) (by decide) (by decide) (by decide) (by decide) (by decide)) (fun k hk => ?_)
    · rw [i4 k (by omega), pu_k (by omega), pu_k (by omega), pu_k (by omega)]
    · rw [hc1]; exact a2.1
    · rw [kf 4 (by decide) (by decide) (by decide) (by decide) (by decide) (by decide), hc1]; exact a2.2.1
    · rw [g.2 28 (by omega), hc1]; exact a2.2.2.1
    · rw [i5 6 (by decide) (by decide) (by decide), pu_s, hl]
    · rw [g.2 30 (by omega), hd]; exact a2.2.2.2.2 p hp
    · rw [i5 7 (by decide) (by decide) (by decide), pu_f (by decide), pu_s]
    · rw [i4 29 (by omega), pu_k (by decide), pu_k (by decide), pu_k (by decide), g.1 29 (by omega)]
  by_cases hmap : I 1 2 = 0
  · refine ⟨fun z => absurd (e12.trans hmap) z, fun _ => ref _ I1 J1 kM1 (fun I4 i4 m1 m2 m3 m4 m5 m6 m7 => ⟨fun z => absurd (m6.trans (a4.symm.trans hmap)) z, fun _ => ⟨fun _ => ?_, fun z => absurd rfl z⟩⟩)⟩
    refine ⟨c1, c1c.mv (by rw [i4 1 (by omega)]) rfl (by rw [i4 0 (by omega)]) rfl, m1, fun k hk => ?_, ?_, Or.inl (m6.trans (a4.symm.trans hmap)), Or.inr (Or.inl ⟨?_, m4, m5⟩)⟩
    · rw [i4 3 (by omega), e3 k hk, m7 k hk]
    · rw [i4 1 (by omega), e12, m6]; exact a4
    · rw [i4 0 (by omega)]; exact e04
  · have h282 : I 28 2 = 1 ∧ OIMG c.2.2.2 := by
      rcases a5 with h | h
      · exact absurd (a4.trans h) hmap
      · exact h
    have hb1 : bR c1 (I 29) I1 J1 := ⟨c1c, r1, r2, e04, by rw [e12, a4]; exact h282.1, e3⟩
    refine ⟨fun _ => s_B_readImages hb1 hl (fun I2 J2 b2 im k2 => ?_), fun z => absurd (e12.symm.trans z) hmap⟩
    have rI2 : ∀ z, z < 2 → rI z (eD c.2.2.2 z) J2 := fun z hz i hi => by
      have := im (20 * z + i / 8) (by omega)
      rw [show (20 * z + i / 8) / 20 = z by omega, show (20 * z + i / 8) % 20 = i / 8 by omega, hd] at this
      rw [this]
      rfl
    have kM2 := kM1.tr k2
    have hd40 : (rd 40 c1).2.2.2 = c.2.2.2 := (rd_d 40).trans hd
    rcases h282.2.v with hzero | ⟨v, cur, t, hIv⟩
    · have nz : ∀ z, z < 2 → ¬ vl (eD c.2.2.2 z) := fun z hz => zero_vl (fun i hi => by unfold eD; rw [hzero _ (by omega)]; exact by64_z _)
      refine s_B_newestImage (rI2 0 (by omega)) (rI2 1 (by omega)) (fun w => absurd w (nz 0 (by omega))) (fun w => absurd w (nz 1 (by omega))) (fun _ _ => ⟨fun z => absurd rfl z, fun _ => ?_⟩)
      refine ref _ I2 J2 kM2 (fun I4 i4 m1 m2 m3 m4 m5 m6 m7 => ⟨fun _ => ?_, fun z => absurd (z.symm.trans (m6.trans h282.1)) (by decide)⟩)
      refine s_M_mount_30 (v := v0) (cur := 0) (t := 0) (b := false) (bd := I 29) ⟨m1, m2, m3, m4, m5, m6.trans h282.1, m7⟩ hl (Or.inl ⟨rfl, by rw [hd]; exact hzero⟩) (fun _ I5 J5 n1 n2 _ => ⟨fun _ => ?_, fun z => absurd rfl z⟩) (fun z => Bool.noConfusion z)
      have u0 : ∀ k, k < 28 → I5 k = I2 k := fun k hk => (n2.1 k hk).trans (i4 k hk)
      have w0 : ∀ k, k < 28 → J5 k = J2 k := fun k hk => n2.2 k (Or.inl hk)
      obtain ⟨q1, q2, q3, q4, q5, q6⟩ := b2
      obtain ⟨p1, p2, p3, p4, p5, p6, p7⟩ := n1
      refine ⟨rd 40 c1, q1.mv (by rw [u0 1 (by omega)]) (by rw [w0 1 (by omega)]) (by rw [u0 0 (by omega)]) (w0 2 (by omega)), p1, fun k hk => ?_, ?_, Or.inr ⟨p6, Or.inl (by rw [hd40]; exact hzero)⟩, Or.inr (Or.inl ⟨?_, p4, p5⟩)⟩
      · rw [u0 3 (by omega), q6 k hk, p7 k hk]
      · rw [u0 1 (by omega), q5, p6]
      · rw [u0 0 (by omega)]; exact q4
    · obtain ⟨hv, hcur, ht, e1, e2, e3'⟩ := id hIv
      have vc : vl (eD c.2.2.2 cur) := enc_vl ht hv e1
      have et : eD c.2.2.2 cur 0 = t := e1 0 (by omega)
      have hr : rI cur (enc v t) J2 := (rI2 cur hcur).cg e1
      -- the class, once cur is chosen
      have fin : ∀ r10 : Int32, r10 = nI cur → (¬ r10 = ((-1) : Int32) → (vp_in r10 2 ∧ (w_I_number r10.toNatClampNeg (0 : Int32) (1 : Int32) (am_ui I2 0 6 r10) J2 (fun (r15 : Int32) (I13 : am_MI) (J14 : am_MJ) => vp_in r10 2 ∧ (w_D_takeFrom r10.toNatClampNeg (am_ui I13 0 7 r15) J14 (fun (I17 : am_MI) (J18 : am_MJ) => w_M_mount (am_ui I17 0 4 (2 : Int32)) J18 (fun (r6 : Int32) (I4 : am_MI) (J5 : am_MJ) => ((1 : Int32) = r6 → (INV I4 J5)) ∧ (¬ ((1 : Int32) = r6) → (False))) (fun _ _ _ => False)) (fun _ _ _ => False))) (fun _ _ _ => False)))) ∧ (r10 = ((-1) : Int32) → (w_M_mount I2 J2 (fun (r6 : Int32) (I4 : am_MI) (J5 : am_MJ) => ((0 : Int32) = r6 → (INV I4 J5)) ∧ (¬ ((0 : Int32) = r6) → (False))) (fun _ _ _ => False))) := by
        intro r10 h10
        subst h10
        have hin : vp_in (nI cur) 2 := vp_in_nI hcur (by omega)
        refine ⟨fun _ => ⟨hin, ?_⟩, fun z => absurd z (nI_neg1 (by omega))⟩
        rw [nI_clamp (by omega)]
        refine s_I_num1 (a := 0) (by omega) hr ⟨hin, ?_⟩
        have ee : enc v t 0 = t := rfl
        rw [ee]
        have kk : ∀ k, k ≠ 0 → am_ui (am_ui I2 0 6 (nI cur)) 0 7 (nI t) k = I2 k := fun k h => by rw [pu_k h, pu_k h]
        refine s_D_takeFrom hv ht hr (b2.2.1.mv (fun k _ _ => kk k (by omega)) (fun _ _ _ => rfl)) (fun I3 g1 g2 => ?_)
        have k3 : ∀ k, k ≠ 0 → (k < 6 ∨ 16 < k) → am_ui I3 0 4 2 k = I2 k := fun k h1 h2 => by rw [pu_k h1, g1 k h2, kk k h1]
        have f3 : ∀ f, f ≠ 4 → f ≠ 6 → f ≠ 7 → am_ui I3 0 4 2 0 f = I2 0 f := fun f h1 h2 h3 => by rw [pu_f h1, g1 0 (by omega), pu_f h3, pu_f h2]
        have hb : bS (rd 40 c1) (vHd (vM v)) cur t q0 (I 29) (am_ui I3 0 4 2) J2 := by
          obtain ⟨q1, q2, q3, q4, q5, q6⟩ := b2
          refine ⟨q1.mv (by rw [k3 1 (by decide) (by omega)]) rfl (f3 5 (by decide) (by decide) (by decide)) rfl, g2.mv (fun k _ _ => pu_k (by omega) ..) (fun _ _ _ => rfl), q3.mv (k3 17 (by decide) (by omega)) (k3 18 (by decide) (by omega)) (k3 19 (by decide) (by omega)) rfl rfl, ?_, ?_, pu_s .., ?_, fun k hk => ?_⟩
          · rw [pu_f (by decide), g1 0 (by omega), pu_f (by decide), pu_s]
          · rw [pu_f (by decide), g1 0 (by omega), pu_s]
          · rw [k3 1 (by decide) (by omega)]; exact q5
          · rw [k3 3 (by decide) (by omega)]; exact q6 k hk
        have kM3 : kM I J (am_ui I3 0 4 2) J2 := ⟨fun k hk => (k3 k (by omega) (by omega)).trans (kM2.1 k hk), kM2.2⟩
        refine ref _ _ J2 kM3 (fun I4 i4 m1 m2 m3 m4 m5 m6 m7 => ⟨fun _ => ?_, fun z => absurd (z.symm.trans (m6.trans h282.1)) (by decide)⟩)
        refine s_M_mount_30 (v := v) (cur := cur) (t := t) (b := true) (bd := I 29) ⟨m1, m2, m3, m4, m5, m6.trans h282.1, m7⟩ hl (Or.inr ⟨rfl, by rw [hd]; exact hIv⟩) (fun z => Bool.noConfusion z) (fun _ I5 J5 n1 n2 _ => ⟨fun _ => ?_, fun z => absurd rfl z⟩)
        exact INV.of_on (hv.vM.hd) hcur ht q0_ok (by rw [hd40]; exact hIv.img) (hb.mv (fun k hk => (n2.1 k hk).trans (i4 k hk)) (fun k hk => n2.2 k (Or.inl hk))) n1
      refine s_B_newestImage (rI2 0 (by omega)) (rI2 1 (by omega)) (fun w0 w => ?_) (fun w1 w => ?_) (fun n0 n1 => ?_)
      · refine fin 0 ?_
        by_cases e : cur = 0
        · rw [e]; rfl
        · obtain rfl : cur = 1 := by omega
          have := e3' rfl
          rw [← et] at this
          exact absurd this (w vc)
      · refine fin 1 ?_
        by_cases e : cur = 0
        · subst e
          have := e2 rfl
          rw [← et] at this
          exact absurd (w vc) this
        · obtain rfl : cur = 1 := by omega
          rfl
      · by_cases e : cur = 0
        · subst e; exact absurd vc n0
        · obtain rfl : cur = 1 := by omega
          exact absurd vc n1
/-! the start -/
theorem inv_start : w_M_forget am_I0 am_J0 (fun I J => INV I (fun k => if k = 45 then (fun _ => 0) else J k)) (fun _ _ _ => False) := by
  refine s_M_forget (fun I i1 i2 i3 m1 m2 => ?_)
  have z : ∀ k f, ¬ (k = 0 ∧ f = 4) → ¬ (k = 0 ∧ f = 5) → ¬ (k = 28 ∧ f = 6) → ¬ (k = 28 ∧ f = 7) → am_I0 k f = 0 := fun k f h1 h2 h3 h4 => by
    unfold am_I0
    rw [if_neg h1, if_neg h2, if_neg h3, if_neg h4]
  have jz : ∀ k f, (fun k => if k = 45 then (fun _ => 0) else am_J0 k : am_MJ) k f = 0 := fun k f => by
    show (if k = 45 then (fun _ => 0) else am_J0 k : Nat → Int64) f = 0
    split <;> rfl
  refine ⟨(0, 0, -1, fun _ => 0), ⟨by omega, ?_, jz _ _, ?_, fun p _ => jz _ _⟩, ⟨by omega, ?_, jz _ _, ?_, fun p _ => jz _ _⟩, fun k hk => ?_, ?_, Or.inl ?_, Or.inr (Or.inl ⟨?_, ?_, i3⟩)⟩
  · rw [i1 1 (by omega)]; exact z 1 3 (by decide) (by decide) (by decide) (by decide)
  · rw [i1 0 (by omega)]; rfl
  · rw [i2 4 (by decide) (by decide) (by decide)]; exact z 28 4 (by decide) (by decide) (by decide) (by decide)
  · rw [i2 6 (by decide) (by decide) (by decide)]; rfl
  · rw [i1 3 (by omega), i1 29 (by omega), z 3 k (by omega) (by omega) (by omega) (by omega), z 29 k (by omega) (by omega) (by omega) (by omega)]
  · rw [i1 1 (by omega), i2 2 (by decide) (by decide) (by decide), z 1 2 (by decide) (by decide) (by decide) (by decide), z 28 2 (by decide) (by decide) (by decide) (by decide)]
  · rw [i2 2 (by decide) (by decide) (by decide)]; exact z 28 2 (by decide) (by decide) (by decide) (by decide)
  · rw [i1 0 (by omega)]; rfl
  · rw [i2 7 (by decide) (by decide) (by decide)]; rfl
end PU25
