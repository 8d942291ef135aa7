section PU5
theorem op_served {I : am_MI} {J : am_MJ} {a : Int32} {K : Int32 → am_MI → am_MJ → Prop} (h : INV I J) (hK : ∀ k I1 J1, w_M_served a I1 J1 (fun r I2 J2 => FINl INV k r I2 J2) FF → K k I1 J1) : w_L_served a I J K FF := by
  unfold w_L_served w_B_served
  rcases h.split with ⟨h4, hm⟩ | ⟨h4, h7, h8⟩
  · refine s_B_need0 h4 (Or.inl ⟨rfl, hK _ _ _ ?_⟩)
    unfold w_M_served
    refine s_M_isReady0 hm ⟨fun z => absurd rfl z, fun _ => ?_⟩
    unfold w_M_served_29
    rw [pu_s]
    exact ⟨fun z => absurd z (by decide), fun _ => fin_l (pu_s ..) (fun z => absurd z (by decide)) (h.code 1)⟩
  · obtain ⟨c, v, cur, t, c1, c2, -, -, -, -, -, -, -, -, -, -, -, n, q, hn, hq, -, -, r3, r4, -, r6⟩ := h.mt h4
    have bad : w_M_served_24 a I J (fun r I2 J2 => FINl INV 2 r I2 J2) FF := by
      unfold w_M_served_24 w_M_served_29
      rw [pu_s]
      exact ⟨fun z => absurd z (by decide), fun _ => fin_l (pu_s ..) (fun z => absurd z (by decide)) (h.code 2)⟩
    refine s_B_need1 h4 ⟨fun ha => Or.inr ⟨rfl, hK _ _ _ ?_⟩, fun ha => ⟨fun hb => ?_, fun hb => Or.inr ⟨rfl, hK _ _ _ ?_⟩⟩⟩
    · unfold w_M_served
      exact s_M_isReady1 h7 h8 ⟨fun _ => ⟨fun _ => bad, fun z => absurd ha z⟩, fun z => absurd z (by decide)⟩
    · obtain ⟨i, hi, rfl⟩ := nI_of ha
      rw [r3] at hb
      have hib : i < q := (nI_ltI hi (by omega)).mp hb
      refine ⟨vp_in_nI (by omega) (by omega), in01, hK _ _ _ ?_⟩
      unfold w_M_served
      refine s_M_isReady1 h7 h8 ⟨fun _ => ⟨fun z => absurd z ha, fun _ => ?_⟩, fun z => absurd z (by decide)⟩
      rw [r4]
      refine ⟨fun _ => ?_, fun z => absurd hb z⟩
      unfold w_M_served_29
      rw [pu_s]
      refine ⟨fun _ => ⟨vp_in_nI (by omega) (by omega), fin_l (pu_s ..) (fun _ => ?_) ((h.out _ _).code 0)⟩, fun z => absurd (by decide) z⟩
      rw [show (0 : Int32).toNatClampNeg = 0 from rfl, pj_s, nI_clamp (by omega), pj_k (by decide), r6 i hib]
    · unfold w_M_served
      refine s_M_isReady1 h7 h8 ⟨fun _ => ⟨fun z => absurd z ha, fun _ => ?_⟩, fun z => absurd z (by decide)⟩
      rw [r4, ← r3]
      exact ⟨fun z => absurd z hb, fun _ => bad⟩
theorem case18 {L0 : Nat} {xs : Nat → Int32} {x4 : Int32} {I : am_MI} {J : am_MJ} (h0 : 0 ≤ x4.toInt) (h5 : x4.toInt + 5 ≤ L0) (hL : L0 ≤ 2560) (h : INV I J) : w_case18 L0 xs x4 I J INV :=
  ⟨xin (j := 1) h0 h5 hL (by omega), op_served h (fun _ _ _ hm => ⟨xin (j := 1) h0 h5 hL (by omega), hm⟩)⟩
/-- a file is named -/
def vName (v : VT) (f : Nat) (a : Int32) : VT := (fu (vN v) f a, v.2)
theorem vOK.name {v : VT} (h : vOK v) {f : Nat} {a : Int32} (ha : a ≠ 0) : vOK (vName v f a) := by
  obtain ⟨h1, h2, h3, h4, h5⟩ := h
  refine ⟨fun g hg e => ?_, h2, h3, h4, h5⟩
  by_cases eg : g = f
  · subst eg
    exact absurd ((fu_s (vN v) g a).symm.trans e) ha
  · exact h1 g hg ((fu_n eg (vN v) a).symm.trans e)
theorem vOK.none {v : VT} (h : vOK v) {f : Nat} (hf : f < 8) (e : vN v f = 0) : vL v f = 0 ∧ vW v f = 0 ∧ vG v f = false := by
  have hl := h.1 f hf e
  have hw : vW v f = 0 := Classical.byContradiction (fun z => by
    obtain ⟨i, hi, -⟩ := h.2.2.2.1 f hf z
    rw [hl] at hi
    exact absurd hi (by show ¬ i < 0; omega))
  refine ⟨hl, hw, ?_⟩
  cases hg : vG v f
  · rfl
  · exact absurd hw (h.2.2.2.2 f hf hg)
theorem rcV.name {v : VT} {I : am_MI} {J : am_MJ} (h : rcV v I J) {f : Nat} {a : Int32} (hf : f < 8) : rcV (vName v f a) (am_ui I (6 + f) 0 a) J := by
  obtain ⟨h1, h2, h3, h4, h5, h6, h7, h8, h9, h10⟩ := h
  have k0 : ∀ g q, q ≠ 0 → am_ui I (6 + f) 0 a (6 + g) q = I (6 + g) q := fun g q hq => by
    by_cases e : g = f
    · rw [e, pu_f hq]
    · rw [pu_k (by omega)]
  have k1 : ∀ k, 14 ≤ k → am_ui I (6 + f) 0 a k = I k := fun k hk => pu_k (by omega) ..
  refine ⟨fun g hg => ?_, fun g hg => (k0 g 2 (by decide)).trans (h2 g hg), fun g hg => (k0 g 1 (by decide)).trans (h3 g hg), fun g hg => (k0 g 3 (by decide)).trans (h4 g hg), h5, fun g hg => (k0 g 5 (by decide)).trans (h6 g hg), fun g hg i hi => ?_, fun p hp hn => ?_, fun p hp => ?_, fun p hp => ?_⟩
  · show _ = fu (vN v) f a g
    by_cases e : g = f
    · subst e
      rw [pu_s, fu_s]
    · rw [pu_k (by omega), fu_n e]
      exact h1 g hg
  · rw [k1 14 (by omega)]; exact h7 g hg i hi
  · rw [k1 14 (by omega)]; exact h8 p hp hn
  · rw [k1 15 (by omega)]; exact h9 p hp
  · rw [k1 16 (by omega)]; exact h10 p hp
/-- the class's new name and the reference's new file: the same files on both sides -/
theorem s_M_drop {v : VT} {I : am_MI} {J : am_MJ} {Q : am_MI → am_MJ → Prop} {X : String → am_MI → am_MJ → Prop} {f : Nat} (hf : f < 8) (hq : Q (am_ui (am_ui (am_ui (am_ui I 31 f 0) 32 f 0) 34 f (-1)) 36 f 0) J) : w_M_drop (nI f) I J Q X := by
  unfold w_M_drop
  rw [nI_clamp (by omega)]
  exact ⟨vp_in_nI hf (by omega), vp_in_nI hf (by omega), vp_in_nI hf (by omega), vp_in_nI hf (by omega), hq⟩
theorem INV.named {I : am_MI} {J : am_MJ} (h : INV I J) (h4 : I 0 4 = 2) (h7 : I 28 7 = 1) (h8 : I 28 8 = 1) {c : CH} {v : VT} {cur t f : Nat} {a y : Int32} {r : Int64} (c1 : rcC c I J) (c2 : rmC c I J) (hh : mtR c v cur t I J) (hf : f < 8) (hn : vN v f = 0) (ha : a ≠ 0) :
    INV (am_ui (am_ui (am_ui (am_ui (am_ui (am_ui (am_ui I (6 + f) 0 a) 28 0 y) 31 f 0) 32 f 0) 34 f (-1)) 36 f 0) 31 f a) (am_uj J 45 0 r) := by
  obtain ⟨c0, b1, b2, b3, b4, b5, -⟩ := h
  obtain ⟨d1, d2, d3, d4, d5, d6, d7, d8, d9, d10, d11, d12⟩ := hh
  obtain ⟨n1, n2, n3⟩ := d1.none hf hn
  generalize hE : am_ui (am_ui (am_ui (am_ui (am_ui (am_ui (am_ui I (6 + f) 0 a) 28 0 y) 31 f 0) 32 f 0) 34 f (-1)) 36 f 0) 31 f a = E
  have kk : ∀ k, k ≠ 6 + f → k ≠ 28 → k ≠ 31 → k ≠ 32 → k ≠ 34 → k ≠ 36 → E k = I k := fun k p1 p2 p3 p4 p5 p6 => by rw [← hE, pu_k p3, pu_k p6, pu_k p5, pu_k p4, pu_k p3, pu_k p2, pu_k p1]
  have k28 : ∀ q, q ≠ 0 → E 28 q = I 28 q := fun q hq => by rw [← hE, pu_k (by decide), pu_k (by decide), pu_k (by decide), pu_k (by decide), pu_k (by decide), pu_f hq, pu_k (by omega)]
  have kc : ∀ k, 6 ≤ k → k < 17 → E k = am_ui I (6 + f) 0 a k := fun k p q => by rw [← hE, pu_k (by omega), pu_k (by omega), pu_k (by omega), pu_k (by omega), pu_k (by omega), pu_k (by omega)]
  have kj : ∀ k, k ≠ 45 → am_uj J 45 0 r k = J k := fun k hk => pj_k hk ..
  have e31 : ∀ g, E 31 g = fu (vN v) f a g ∨ g ≥ 8 := fun g => by
    by_cases hg : g < 8
    · left
      by_cases e : g = f
      · rw [← hE, e, pu_s, fu_s]
      · rw [← hE, pu_f e, pu_k (by decide), pu_k (by decide), pu_k (by decide), pu_f e, pu_k (by decide), pu_k (by omega), fu_n e]
        exact d3.1 g hg
    · exact Or.inr (by omega)
  refine ⟨c, c1.mv (by rw [kk 1 (by omega) (by decide) (by decide) (by decide) (by decide) (by decide)]) (by rw [kj 1 (by decide)]) (by rw [kk 0 (by omega) (by decide) (by decide) (by decide) (by decide) (by decide)]) (kj 2 (by decide)), c2.mv (k28 4 (by decide)) (by rw [kj 28 (by decide)]) (k28 6 (by decide)) (kj 30 (by decide)), fun k hk => by rw [kk 3 (by omega) (by decide) (by decide) (by decide) (by decide) (by decide), kk 29 (by omega) (by decide) (by decide) (by decide) (by decide) (by decide)]; exact b3 k hk, by rw [kk 1 (by omega) (by decide) (by decide) (by decide) (by decide) (by decide), k28 2 (by decide)]; exact b4, Or.inr ⟨(k28 2 (by decide)).trans d10, Or.inr ⟨cur, d4, t, d5, d11⟩⟩, Or.inr (Or.inr ⟨?_, (k28 7 (by decide)).trans h7, (k28 8 (by decide)).trans h8, vName v f a, cur, t, d1.name ha, ?_, ?_, d4, d5, ?_, ?_, (k28 15 (by decide)).trans d8, (k28 16 (by decide)).trans d9, (k28 2 (by decide)).trans d10, d11, ?_⟩)⟩
  · rw [kk 0 (by omega) (by decide) (by decide) (by decide) (by decide) (by decide)]; exact h4
  · exact (d2.name hf).mv (fun k p q => kc k p q) (fun k p q => kj k (by omega))
  · obtain ⟨m1, m2, m3, m4, m5, m6, m7⟩ := d3
    refine ⟨fun g hg => ?_, fun g hg => ?_, fun g hg i hi => ?_, fun g hg => ?_, fun g hg hw => ?_, fun g hg => ?_, fun p hp => ?_⟩
    · exact (e31 g).elim id (fun z => absurd hg (by omega))
    · show E 32 g = nI (vL v g)
      by_cases e : g = f
      · rw [← hE, e, pu_k (by decide), pu_k (by decide), pu_k (by decide), pu_s, n1]; rfl
      · rw [← hE, pu_k (by decide), pu_k (by decide), pu_k (by decide), pu_f e, pu_k (by decide), pu_k (by decide), pu_k (by omega)]
        exact m2 g hg
    · rw [kk 33 (by omega) (by decide) (by decide) (by decide) (by decide) (by decide)]; exact m3 g hg i hi
    · show E 34 g = if vW v g = 0 then (-1) else nI (vW v g)
      by_cases e : g = f
      · rw [← hE, e, pu_k (by decide), pu_k (by decide), pu_s, n2, if_pos rfl]
      · rw [← hE, pu_k (by decide), pu_k (by decide), pu_f e, pu_k (by decide), pu_k (by decide), pu_k (by decide), pu_k (by omega)]
        exact m4 g hg
    · rw [kj 35 (by decide)]; exact m5 g hg hw
    · show E 36 g = bI (vG v g)
      by_cases e : g = f
      · rw [← hE, e, pu_k (by decide), pu_s, n3]; rfl
      · rw [← hE, pu_k (by decide), pu_f e, pu_k (by decide), pu_k (by decide), pu_k (by decide), pu_k (by decide), pu_k (by omega)]
        exact m6 g hg
    · rw [kk 37 (by omega) (by decide) (by decide) (by decide) (by decide) (by decide)]; exact m7 p hp
  · rw [kk 0 (by omega) (by decide) (by decide) (by decide) (by decide) (by decide)]; exact d6
  · rw [kk 0 (by omega) (by decide) (by decide) (by decide) (by decide) (by decide)]; exact d7
  · exact d12.mv (kk 17 (by omega) (by decide) (by decide) (by decide) (by decide) (by decide)) (k28 20 (by decide)) (k28 25 (by decide)) (kk 18 (by omega) (by decide) (by decide) (by decide) (by decide) (by decide)) (kk 40 (by omega) (by decide) (by decide) (by decide) (by decide) (by decide)) (kk 19 (by omega) (by decide) (by decide) (by decide) (by decide) (by decide)) (kk 41 (by omega) (by decide) (by decide) (by decide) (by decide) (by decide)) (kj 20 (by decide)) (kj 42 (by decide)) (kj 22 (by decide)) (kj 44 (by decide))
end PU5
