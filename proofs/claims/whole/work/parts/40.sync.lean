section PU20
/-! what the writes leave on the chip; sync -/
section
variable {c c' : CH} {v v' : VT} {cur t : Nat} {q : QT} {bd : Nat → Int32} {e : Nat → Nat} {I I' : am_MI} {J J' : am_MJ}
theorem rWr_S {oc : Nat} {S : Nat → Int64 → Prop} (h2 : ∀ x, x < 20 → S (20 * oc + x) (pgv e x)) : ∀ m {c : CH}, (∀ p, S p (c.2.2.2 p)) → ∀ p, S p ((rWr oc e m c).2.2.2.2 p) := by
  intro m
  induction m with
  | zero => intro c h p; exact h p
  | succ m ih =>
    intro c h p
    by_cases h0 : c.2.2.1 = 0
    · rw [rWr_t h0]; exact h p
    · rw [rWr_f h0]
      refine ih (fun p' => ?_) p
      show S p' (fu c.2.2.2 (20 * oc + (20 - m) % 20) (pgv e ((20 - m) % 20)) p')
      by_cases ep : p' = 20 * oc + (20 - m) % 20
      · rw [ep, fu_s]; exact h2 _ (by omega)
      · rw [fu_n ep]; exact h p'
theorem rWr_keep {oc : Nat} : ∀ m {c : CH}, ∀ p, (∀ k, k < m → p ≠ 20 * oc + (20 - k) % 20) → (rWr oc e m c).2.2.2.2 p = c.2.2.2 p := by
  intro m
  induction m with
  | zero => intro c p _; rfl
  | succ m ih =>
    intro c p hp
    by_cases h0 : c.2.2.1 = 0
    · rw [rWr_t h0]
    · rw [rWr_f h0, ih p (fun k hk => hp k (by omega))]
      exact fu_n (hp m (by omega)) ..
theorem rWr_off {oc : Nat} : ∀ m {c : CH}, m ≤ 20 → (rWr oc e m c).1 = false → (rWr oc e m c).2.2.2.2 (20 * oc) = c.2.2.2 (20 * oc) := by
  intro m
  induction m with
  | zero => intro c _ h; exact Bool.noConfusion h
  | succ m ih =>
    intro c hm h
    by_cases h0 : c.2.2.1 = 0
    · rw [rWr_t h0]
    · rw [rWr_f h0] at h ⊢
      rw [ih (by omega) h]
      have : m ≠ 0 := fun z => by
        subst z
        exact Bool.noConfusion h
      exact fu_n (by omega) ..
theorem rWr_all {oc : Nat} : ∀ m {c : CH}, m ≤ 20 → (rWr oc e m c).1 = true → ∀ k, k < m → (rWr oc e m c).2.2.2.2 (20 * oc + (20 - k) % 20) = pgv e ((20 - k) % 20) := by
  intro m
  induction m with
  | zero => intro c _ _ k hk; exact absurd hk (by omega)
  | succ m ih =>
    intro c hm h k hk
    by_cases h0 : c.2.2.1 = 0
    · rw [rWr_t h0] at h; exact Bool.noConfusion h
    · rw [rWr_f h0] at h ⊢
      by_cases ek : k = m
      · rw [rWr_keep m _ (fun k' hk' => by omega), ek]
        exact fu_s ..
      · exact ih (by omega) h k (by omega)
theorem IMG.part {d d' : Nat → Int64} (hcur : cur < 2) (hi : IMG cur t d) (h1 : ∀ x, x < 20 → d' (20 * cur + x) = d (20 * cur + x)) (h2 : d' (20 * (1 - cur)) = d (20 * (1 - cur))) : IMG cur t d' := by
  obtain ⟨v, hv, a1, a2, a3⟩ := hi
  refine ⟨v, hv, fun i hi => ?_, fun e => ?_, fun e => ?_⟩
  · rw [h1 (i / 8) (by omega)]; exact a1 i hi
  · subst e
    rw [show d' 20 = d 20 from h2]; exact a2 rfl
  · subst e
    rw [show d' 0 = d 0 from h2]; exact a3 rfl
theorem IMG.byte {d : Nat → Int64} (hi : IMG cur t d) : by64 (d (20 * cur)) 0 = t := by
  obtain ⟨v, hv, a1, a2, a3⟩ := hi
  exact a1 0 (by omega)
theorem IMG.done {d d' : Nat → Int64} (hcur : cur < 2) (ht : t < 256) (hv : vOK v) (hi : by64 (d (20 * cur)) 0 = t) (h1 : ∀ x, x < 20 → d' (20 * cur + x) = d (20 * cur + x)) (h2 : ∀ x, x < 20 → d' (20 * (1 - cur) + x) = pgv (enc v ((t + 1) % 256)) x) : IMG (1 - cur) ((t + 1) % 256) d' := by
  have hb : by64 (d' (20 * cur)) 0 = t := by rw [show d' (20 * cur) = d (20 * cur) from h1 0 (by omega)]; exact hi
  refine ⟨v, hv, fun i hi => ?_, fun e => ?_, fun e => ?_⟩
  · rw [h2 (i / 8) (by omega), by_pgv (fun i => enc_lt hv (by omega) i) (by omega), show 8 * (i / 8) + i % 8 = i by omega]
  · obtain rfl : cur = 1 := by omega
    rw [hb]
    omega
  · obtain rfl : cur = 0 := by omega
    rw [hb]
    omega
theorem rWA_t (h : (rSv 8 c v).1 = false) : rWA c v cur t = rSv 8 c v := if_pos h
theorem rWA_f (h : ¬ (rSv 8 c v).1 = false) : rWA c v cur t = ((rWr (1 - cur) (enc (rSv 8 c v).2.2 ((t + 1) % 256)) 20 (rSv 8 c v).2.1).1, (rWr (1 - cur) (enc (rSv 8 c v).2.2 ((t + 1) % 256)) 20 (rSv 8 c v).2.1).2, (rSv 8 c v).2.2) := if_neg h
theorem vOK.rwa (h : vOK v) : vOK (rWA c v cur t).2.2 := by
  by_cases h0 : (rSv 8 c v).1 = false
  · rw [rWA_t h0]; exact h.rsv 8
  · rw [rWA_f h0]; exact h.rsv 8
theorem rWA_img (hv : vOK v) (hcur : cur < 2) (ht : t < 256) (hi : IMG cur t c.2.2.2) :
    ((rWA c v cur t).1 = false → IMG cur t (rWA c v cur t).2.1.2.2.2) ∧ ((rWA c v cur t).1 = true → IMG (1 - cur) ((t + 1) % 256) (rWA c v cur t).2.1.2.2.2) := by
  have h40 := rSv_40 (c := c) (v := v) 8 (by omega) hv
  by_cases h0 : (rSv 8 c v).1 = false
  · rw [rWA_t h0, h0]
    exact ⟨fun _ => hi.mv hcur h40, fun z => Bool.noConfusion z⟩
  · rw [rWA_f h0]
    dsimp only
    have hi2 := hi.mv hcur h40
    have hk : ∀ x, x < 20 → (rWr (1 - cur) (enc (rSv 8 c v).2.2 ((t + 1) % 256)) 20 (rSv 8 c v).2.1).2.2.2.2 (20 * cur + x) = (rSv 8 c v).2.1.2.2.2 (20 * cur + x) := fun x hx => rWr_keep 20 _ (fun k hk => by omega)
    refine ⟨fun z => hi2.part hcur hk (rWr_off 20 (by omega) z), fun z => IMG.done hcur ht (vOK.rsv 8 (c := c) hv) hi2.byte hk (fun x hx => ?_)⟩
    by_cases x0 : x = 0
    · have := rWr_all 20 (by omega) z 0 (by omega)
      rw [x0]
      exact this
    · have := rWr_all 20 (by omega) z (20 - x) (by omega)
      rw [show (20 - (20 - x)) % 20 = x by omega] at this
      exact this
end
theorem op_sync {I : am_MI} {J : am_MJ} {K : Int32 → am_MI → am_MJ → Prop} (h : INV I J) (hK : ∀ k I1 J1, w_M_sync I1 J1 (fun r I2 J2 => FINi INV k r I2 J2) FF → K k I1 J1) : w_L_sync I J K FF := by
  unfold w_L_sync w_B_sync
  rcases h.split with ⟨h4, hm⟩ | ⟨h4, h7, h8⟩
  · refine s_B_need0 h4 ⟨rfl, hK _ _ _ ?_⟩
    unfold w_M_sync w_M_sync_13
    refine s_M_isReady0 hm ⟨fun _ => ?_, fun z => absurd rfl z⟩
    rw [pu_s]
    exact ⟨fun z => absurd z (by decide), fun _ => fin_i (pu_s ..) (fun z => absurd z (by decide)) (h.code 1)⟩
  · obtain ⟨c, v, cur, t, q, bd, hv, hcur, ht, hq, hi, hb, hm⟩ := h.on h4
    obtain ⟨i1, i2⟩ := rWA_img (c := c) hv hcur ht hi
    refine s_B_need1 h4 (s_B_writeAll hv hcur ht hb (fun o I1 J1 g1 g2 => ⟨rfl, hK _ _ _ ?_⟩) (fun o I1 J1 g1 g2 => ⟨in01, hK _ _ _ ?_⟩))
    · have hm1 := hm.km g2
      unfold w_M_sync w_M_sync_13
      refine s_M_isReady1 hm1.2.2.2.2.2.1 hm1.2.2.2.2.2.2.1 ⟨fun z => absurd z (by decide), fun _ => ?_⟩
      rw [pu_s]
      refine ⟨fun _ => s_M_saveAll hv hcur ht (hm1.code 0) (fun _ I2 J2 g3 g4 => ?_) (fun z => absurd (o.symm.trans z) (by decide)), fun z => absurd (by decide) z⟩
      rw [g3.2.1]
      refine ⟨fun _ => ?_, fun z => absurd rfl z⟩
      unfold w_M_sync_47
      rw [pu_s]
      refine ⟨fun z => absurd z (by decide), fun _ => fin_i (pu_s ..) (fun z => absurd z (by decide)) ?_⟩
      exact INV.of_off ((i1 o).OI hcur ht) (g1.kb ((kB.rf.ui (by omega) _ _).tr g4 |>.ui (by omega) _ _)) (g3.u28 (by decide) _)
    · have hm1 := (hm.km g2).out 0 ((rWA c v cur t).2.1.2.1 - c.2.1).toInt32.toInt64
      unfold w_M_sync w_M_sync_13
      refine s_M_isReady1 hm1.2.2.2.2.2.1 hm1.2.2.2.2.2.2.1 ⟨fun z => absurd z (by decide), fun _ => ?_⟩
      rw [pu_s]
      refine ⟨fun _ => s_M_saveAll hv hcur ht (hm1.code 0) (fun z => absurd (o.symm.trans z) (by decide)) (fun _ I2 J2 g3 g4 => ?_), fun z => absurd (by decide) z⟩
      rw [g3.2.2.2.2.2.1]
      refine ⟨fun z => absurd z (by decide), fun _ => ?_⟩
      unfold w_M_sync_47
      have e1 : (am_uj J1 45 (0 : Int32).toNatClampNeg ((rWA c v cur t).2.1.2.1 - c.2.1).toInt32.toInt64) 28 5 = c.2.1 := hm1.1.2.2.1
      rw [pu_s, g3.1.2.2.1, e1]
      refine ⟨fun _ => fin_i (pu_s ..) (fun _ => ?_) ?_, fun z => absurd (by decide) z⟩
      · rw [g4.2 45 (Or.inr rfl)]; exact pj_s ..
      · exact INV.of_on (hv.rwa.hd) (by omega) (by omega) hq (i2 o) ((g1.out 0 _).kb ((kB.rf.ui (by omega) _ _).tr g4 |>.ui (by omega) _ _)) (g3.code 0)
theorem case13 {L0 : Nat} {xs : Nat → Int32} {x4 : Int32} {I : am_MI} {J : am_MJ} (h : INV I J) : w_case13 L0 xs x4 I J INV := by
  unfold w_case13
  exact op_sync h (fun k I1 J1 hw => hw)
end PU20
