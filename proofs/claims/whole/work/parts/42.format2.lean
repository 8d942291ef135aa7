section PU22
def FNb (K : am_MI → am_MJ → Prop) (k r : Int32) (I : am_MI) (J : am_MJ) : Prop :=
  w_M_thrown I J (fun (r9 : Int32) (I7 : am_MI) (J8 : am_MJ) => (r9 = k → ((¬ k = 0 → (K I7 J8)) ∧ (k = 0 → (vp_in (0 : Int32) 1 ∧ ((r = 0 → (((lg_cmp (J8 45 (0 : Int32).toNatClampNeg) (0 : Int64)) = 0 → (K I7 J8)) ∧ (¬ ((lg_cmp (J8 45 (0 : Int32).toNatClampNeg) (0 : Int64)) = 0) → (False)))) ∧ (¬ (r = 0) → (((lg_cmp (J8 45 (0 : Int32).toNatClampNeg) (1 : Int64)) = 0 → (K I7 J8)) ∧ (¬ ((lg_cmp (J8 45 (0 : Int32).toNatClampNeg) (1 : Int64)) = 0) → (False))))))))) ∧ (¬ (r9 = k) → (False))) (fun _ _ _ => False)
section
variable {c c' : CH} {v v' : VT} {cur t : Nat} {q : QT} {bd : Nat → Int32} {e : Nat → Nat} {I I' : am_MI} {J J' : am_MJ}
theorem fin_b {K : am_MI → am_MJ → Prop} {k r : Int32} (hk : I 28 0 = k) (h0 : k = 0 → r = 0 → J 45 0 = 0) (h1 : k = 0 → ¬ r = 0 → J 45 0 = 1) (hK : K I J) : FNb K k r I J := by
  unfold FNb w_M_thrown
  rw [hk]
  refine ⟨fun _ => ⟨fun _ => hK, fun h => ⟨in01, fun z => ?_, fun z => ?_⟩⟩, fun z => z rfl⟩
  · rw [show (0 : Int32).toNatClampNeg = 0 from rfl, h0 h z, lg_same]
    exact ⟨fun _ => hK, fun z => z rfl⟩
  · rw [show (0 : Int32).toNatClampNeg = 0 from rfl, h1 h z, lg_same]
    exact ⟨fun _ => hK, fun z => z rfl⟩
theorem s_M_format_20 {Q : Int32 → am_MI → am_MJ → Prop} {X : String → am_MI → am_MJ → Prop} (hx : 0 < I 28 0 → Q 0 I J)
    (h1 : ¬ 0 < I 28 0 → 64 ≤ cg (I 29) 69 → ∀ P20, w_M_format_83 0 (am_ui I 28 2 1) (am_uj J 28 5 (J 28 5 + 202)) Q X P20) (h2 : ¬ 0 < I 28 0 → ¬ 64 ≤ cg (I 29) 69 → Q 0 I J) : w_M_format_20 0 0 I J Q X := by
  unfold w_M_format_20
  intro P hP
  have hle := cg_le (b := I 29) 69
  have key : ∀ m x, x + m = 69 → P (nI (cg (I 29) x)) (nI x) I J := by
    intro m
    induction m with
    | zero =>
      intro x hx69
      obtain rfl : x = 69 := by omega
      exact hP _ _ _ _ (br_t (nI_le (a := 69) (by omega) (by omega)) ⟨hx, fun z => ⟨fun y => h1 z ((nI_leI (a := 64) (by omega) (by omega)).mp y) P, fun y => h2 z (fun w => y ((nI_leI (a := 64) (by omega) (by omega)).mpr w))⟩⟩)
    | succ m ih =>
      intro x hx69
      refine hP _ _ _ _ (br_f (nI_ge (b := 69) (by omega) (by omega)) ⟨vp_in_nI (by omega) (by omega), ?_⟩)
      rw [nI_clamp (by omega), nI_1, nI_1]
      have := ih (x + 1) (by omega)
      refine ⟨fun z => ?_, fun z => ?_⟩
      · rw [show cg (I 29) (x + 1) = cg (I 29) x + 1 from if_pos z] at this; exact this
      · rw [show cg (I 29) (x + 1) = cg (I 29) x from if_neg z] at this; exact this
  exact key 69 0 (by omega)
theorem s_M_format_83 {Q : Int32 → am_MI → am_MJ → Prop} {X : String → am_MI → am_MJ → Prop} {P20 : Int32 → Int32 → am_MI → am_MJ → Prop}
    (hq : ∀ J', (∀ k, k ≠ 30 → J' k = J k) → (∀ p, p < 101 → J' 30 p = 0) → w_M_forget I J' (fun (I6 : am_MI) (J7 : am_MJ) => w_M_saveAll (am_ui (am_ui (am_ui I6 28 15 (1 : Int32)) 28 16 (255 : Int32)) 28 8 (1 : Int32)) J7 (fun (I9 : am_MI) (J10 : am_MJ) => ((I9 28 7) = 0 → (((am_ui I9 28 0 (1 : Int32)) 28 7 = 0 ∨ (am_ui I9 28 0 (1 : Int32)) 28 7 = 1) ∧ Q ((am_ui I9 28 0 (1 : Int32)) 28 7) (am_ui I9 28 0 (1 : Int32)) J10)) ∧ (¬ ((I9 28 7) = 0) → (((am_ui I9 28 0 (0 : Int32)) 28 7 = 0 ∨ (am_ui I9 28 0 (0 : Int32)) 28 7 = 1) ∧ Q ((am_ui I9 28 0 (0 : Int32)) 28 7) (am_ui I9 28 0 (0 : Int32)) J10))) X) X) : w_M_format_83 0 I J Q X P20 := by
  unfold w_M_format_83
  intro P hP
  have key : ∀ m x J1, x + m = 101 → (∀ k, k ≠ 30 → J1 k = J k) → (∀ p, p < x → J1 30 p = 0) → P (nI x) I J1 := by
    intro m
    induction m with
    | zero =>
      intro x J1 hx k1 k2
      obtain rfl : x = 101 := by omega
      exact hP _ _ _ (br_t (nI_le (a := 101) (by omega) (by omega)) (hq J1 k1 k2))
    | succ m ih =>
      intro x J1 hx k1 k2
      refine hP _ _ _ (br_f (nI_ge (b := 101) (by omega) (by omega)) ⟨vp_in_nI (by omega) (by omega), ?_⟩)
      rw [nI_clamp (by omega), nI_1]
      refine ih (x + 1) _ (by omega) (fun k hk => (pj_k hk ..).trans (k1 k hk)) (fun p hp => ?_)
      by_cases ep : p = x
      · rw [ep, pj_s]
      · rw [pj_f ep]; exact k2 p (by omega)
  exact key 101 0 J (by omega) (fun _ _ => rfl) (fun p hp => absurd hp (by omega))
end
theorem op_format {I : am_MI} {J : am_MJ} {K : Int32 → am_MI → am_MJ → Prop} (h : INV I J) (hK : ∀ k I1 J1, w_M_format I1 J1 (fun r I2 J2 => FNb INV k r I2 J2) FF → K k I1 J1) : w_L_format I J K FF := by
  unfold w_L_format w_B_format
  obtain ⟨c, a1, a2, a3, a4, a5, a6⟩ := id h
  have hl : cg (I 3) 69 = cg (I 29) 69 := cg_cg 69 a3
  have hle := cg_le (b := I 3) 69
  by_cases h4 : I 0 4 = 0
  · have h7 : I 28 7 = 0 := by
      rcases a6 with ⟨_, e2⟩ | ⟨e1, -⟩ | ⟨e1, -⟩
      · exact e2
      · rw [h4] at e1; exact absurd e1 (by decide)
      · rw [h4] at e1; exact absurd e1 (by decide)
    refine ⟨fun z => absurd h4 z, fun _ => ⟨rfl, hK _ _ _ ?_⟩⟩
    unfold w_M_format w_M_format_13
    rw [h7]
    refine ⟨fun _ => s_M_format_20 (fun _ => fin_b (pu_s ..) (fun z => absurd z (by decide)) (fun z => absurd z (by decide)) (h.code 1)) (fun z => absurd ?_ z) (fun z => absurd ?_ z), fun z => absurd rfl z⟩
    · rw [pu_s]; decide
    · rw [pu_s]; decide
  · have h7 : I 28 7 = 1 := by
      rcases a6 with ⟨e1, -⟩ | ⟨_, e1, -⟩ | ⟨_, e1, -⟩
      · exact absurd e1 h4
      · exact e1
      · exact e1
    refine ⟨fun _ => s_C_goodLoops ⟨fun hg => ?_, fun hg => ?_⟩, fun z => absurd z h4⟩
    · have hg : 64 ≤ cg (I 3) 69 := (nI_leI (a := 64) (by omega) (by omega)).mp hg
      refine s_C_clearPages (fun J1 j1 j2 => s_B_forgetAll (fun I2 J2 i3 j3 r1 r2 => ?_))
      -- the chip, emptied
      have hcz : ∃ c1 : CH, c1 = (c.1, c.2.1 + 202, c.2.2.1, fun _ => 0) := ⟨_, rfl⟩
      obtain ⟨c1, hc1⟩ := hcz
      have kk : ∀ k, k ≠ 0 → am_ui (am_ui (am_ui I2 0 4 2) 0 6 1) 0 7 255 k = I2 k := fun k h => by rw [pu_k h, pu_k h, pu_k h]
      have hb : bS c1 v0 1 255 q0 (I 29) (am_ui (am_ui (am_ui I2 0 4 2) 0 6 1) 0 7 255) J2 := by
        refine ⟨⟨?_, ?_, ?_, ?_, fun p hp => ?_⟩, r1.mv (fun k _ _ => kk k (by omega)) (fun _ _ _ => rfl), r2.mv (kk 17 (by decide)) (kk 18 (by decide)) (kk 19 (by decide)) rfl rfl, ?_, ?_, ?_, ?_, fun k hk => ?_⟩
        · rw [hc1]; exact a1.1
        · rw [kk 1 (by decide), i3 1 (by omega), pu_f (by decide), hc1]; exact a1.2.1
        · rw [j3 1 (by omega), j1 1 (by decide), pj_s, hc1, a1.2.2.1]
        · rw [pu_f (by decide), pu_f (by decide), pu_f (by decide), i3 0 (by omega), pu_k (by decide), hc1]; exact a1.2.2.2.1
        · rw [j3 2 (by omega), j2 p hp, hc1]
        · rw [pu_f (by decide), pu_s]; rfl
        · rw [pu_s]; rfl
        · rw [pu_f (by decide), pu_f (by decide), pu_s]
        · rw [kk 1 (by decide), i3 1 (by omega), pu_s]
        · rw [kk 3 (by decide), i3 3 (by omega), pu_k (by decide)]; exact a3 k hk
      have hz : ∀ p, c1.2.2.2 p = 0 := fun p => by rw [hc1]
      obtain ⟨z1, z2, z3⟩ := rWA_0 hz
      have kM2 : kM I J (am_ui (am_ui (am_ui I2 0 4 2) 0 6 1) 0 7 255) J2 := by
        refine ⟨fun k hk => ?_, fun k hk => ?_⟩
        · rw [kk k (by omega), i3 k (by omega), pu_k (by omega)]
        · rw [j3 k (by omega), j1 k (by omega), pj_k (by omega)]
      -- the reference, up to its saveAll
      have ref : ∀ (k : Int32) I4 J4 (Jx : am_MJ), kM I J I4 J4 → (∀ k, k ≠ 45 → Jx k = J4 k) → (∀ I5 J5, kB I4 Jx I5 J5 → mS c1 v0 1 255 q0 (I 29) I5 J5 → w_M_saveAll I5 J5 (fun (I9 : am_MI) (J10 : am_MJ) => ((I9 28 7) = 0 → (((am_ui I9 28 0 (1 : Int32)) 28 7 = 0 ∨ (am_ui I9 28 0 (1 : Int32)) 28 7 = 1) ∧ FNb INV k ((am_ui I9 28 0 (1 : Int32)) 28 7) (am_ui I9 28 0 (1 : Int32)) J10)) ∧ (¬ ((I9 28 7) = 0) → (((am_ui I9 28 0 (0 : Int32)) 28 7 = 0 ∨ (am_ui I9 28 0 (0 : Int32)) 28 7 = 1) ∧ FNb INV k ((am_ui I9 28 0 (0 : Int32)) 28 7) (am_ui I9 28 0 (0 : Int32)) J10))) FF) → w_M_format I4 Jx (fun r I2 J2 => FNb INV k r I2 J2) FF := by
        intro k I4 J4 Jx g1 gx hw
        unfold w_M_format w_M_format_13
        have h28 : I4 28 = I 28 := g1.1 28 (by omega)
        have h29 : I4 29 = I 29 := g1.1 29 (by omega)
        have jx : ∀ k, 28 ≤ k → k ≠ 45 → Jx k = J k := fun k hk h45 => (gx k h45).trans (g1.2 k hk)
        rw [h28, h7]
        refine ⟨fun z => absurd z (by decide), fun _ => s_M_format_20 (fun z => ?_) (fun _ _ P20 => s_M_format_83 (fun J5 j5 j6 => s_M_forget (fun I6 i6 i7 i8 m1 m2 => ?_))) (fun _ z => absurd ?_ z)⟩
        · rw [pu_s] at z; exact absurd z (by decide)
        · refine hw _ _ ⟨fun k hk => ?_, fun k hk => ?_⟩ ?_
          · rw [pu_k (by omega), pu_k (by omega), pu_k (by omega), i6 k (by omega), pu_k (by omega), pu_k (by omega)]
          · rw [j5 k (by omega), pj_k (by omega)]
          · have kk2 : ∀ k, k ≠ 28 → am_ui (am_ui (am_ui I6 28 15 1) 28 16 255) 28 8 1 k = I6 k := fun k h => by rw [pu_k h, pu_k h, pu_k h]
            have kf : ∀ f, f ≠ 15 → f ≠ 16 → f ≠ 8 → am_ui (am_ui (am_ui I6 28 15 1) 28 16 255) 28 8 1 28 f = I6 28 f := fun f h1 h2 h3 => by rw [pu_f h3, pu_f h2, pu_f h1]
            have kg : ∀ f, f ≠ 15 → f ≠ 16 → f ≠ 8 → f ≠ 20 → f ≠ 25 → f ≠ 2 → f ≠ 0 → am_ui (am_ui (am_ui I6 28 15 1) 28 16 255) 28 8 1 28 f = I 28 f := fun f h1 h2 h3 h4 h5 h6 h8 => by rw [kf f h1 h2 h3, i7 f h3 h4 h5, pu_f h6, pu_f h8, h28]
            refine ⟨⟨?_, ?_, ?_, ?_, fun p hp => ?_⟩, m1.mv (fun k _ _ => kk2 k (by omega)) (fun _ _ _ => rfl), m2.mv (kf 20 (by decide) (by decide) (by decide)) (kf 25 (by decide) (by decide) (by decide)) (kk2 40 (by decide)) (kk2 41 (by decide)) rfl rfl, ?_, ?_, ?_, ?_, ?_, fun k hk => ?_⟩
            · rw [hc1]; exact a2.1
            · rw [kg 4 (by decide) (by decide) (by decide) (by decide) (by decide) (by decide) (by decide), hc1]; exact a2.2.1
            · rw [j5 28 (by decide), pj_s, hc1, jx 28 (by decide) (by decide), a2.2.2.1]
            · rw [kg 6 (by decide) (by decide) (by decide) (by decide) (by decide) (by decide) (by decide), hc1]; exact a2.2.2.2.1
            · rw [j6 p hp, hc1]
            · rw [pu_f (by decide), pu_f (by decide), pu_s]; rfl
            · rw [pu_f (by decide), pu_s]; rfl
            · rw [kg 7 (by decide) (by decide) (by decide) (by decide) (by decide) (by decide) (by decide)]; exact h7
            · rw [pu_s]
            · rw [kf 2 (by decide) (by decide) (by decide), i7 2 (by decide) (by decide) (by decide), pu_s]
            · rw [kk2 29 (by decide), i6 29 (by omega), pu_k (by decide), pu_k (by decide), h29]
        · rw [pu_k (by decide), h29, ← hl]; exact hg
      refine s_B_writeAll v0_ok (by omega) (by omega) hb (fun o I3 J3 g1 g2 => ⟨rfl, hK _ _ _ ?_⟩) (fun o I3 J3 g1 g2 => ⟨fun z => absurd z (by decide), fun _ => ⟨in01, hK _ _ _ ?_⟩⟩)
      · refine ref 1 I3 J3 J3 (kM2.tr g2) (fun _ _ => rfl) (fun I5 J5 k5 m5 => s_M_saveAll v0_ok (by omega) (by omega) m5 (fun _ I6 J6 m6 k6 => ?_) (fun z => absurd (o.symm.trans z) (by decide)))
        refine ⟨fun _ => ?_, fun z => absurd m6.2.1 z⟩
        have e7 : am_ui I6 28 0 1 28 7 = 0 := (pu_f (by decide) ..).trans m6.2.1
        rw [e7]
        refine ⟨Or.inl rfl, fin_b (pu_s ..) (fun z => absurd z (by decide)) (fun z => absurd z (by decide)) ?_⟩
        exact INV.of_off (z2 o) (g1.kb ((k5.tr k6).ui (by omega) _ _)) (m6.u28 (by decide) _)
      · refine ref 0 I3 J3 _ (kM2.tr g2) (fun k hk => pj_k hk ..) (fun I5 J5 k5 m5 => s_M_saveAll v0_ok (by omega) (by omega) m5 (fun z => absurd (o.symm.trans z) (by decide)) (fun _ I6 J6 m6 k6 => ?_))
        have e7 : I6 28 7 = 1 := m6.2.2.2.2.2.1
        refine ⟨fun z => absurd (e7.symm.trans z) (by decide), fun _ => ?_⟩
        have e8 : am_ui I6 28 0 0 28 7 = 1 := (pu_f (by decide) ..).trans e7
        rw [e8]
        refine ⟨Or.inr rfl, fin_b (pu_s ..) (fun _ z => absurd z (by decide)) (fun _ _ => ?_) ?_⟩
        · rw [k6.2 45 (Or.inr rfl), k5.2 45 (Or.inr rfl)]; exact pj_s ..
        · exact INV.of_on (cur := 0) (t := 0) (by rw [z1]; exact v0_ok.hd) (by omega) (by omega) q0_ok (z3 o) ((g1.out 0 _).kb ((k5.tr k6).ui (by omega) _ _)) (m6.code 0)
    · have hg : ¬ 64 ≤ cg (I 3) 69 := fun z => hg ((nI_leI (a := 64) (by omega) (by omega)).mpr z)
      refine ⟨fun _ => ⟨in01, hK _ _ _ ?_⟩, fun z => absurd rfl z⟩
      unfold w_M_format w_M_format_13
      rw [h7]
      refine ⟨fun z => absurd z (by decide), fun _ => s_M_format_20 (fun z => ?_) (fun _ z => absurd ?_ hg) (fun _ _ => fin_b (pu_s ..) (fun _ _ => pj_s ..) (fun _ z => absurd rfl z) ((h.out 0 0).code 0))⟩
      · rw [pu_s] at z; exact absurd z (by decide)
      · rw [pu_k (by decide), ← hl] at z; exact z
theorem case4 {L0 : Nat} {xs : Nat → Int32} {x4 : Int32} {I : am_MI} {J : am_MJ} (h : INV I J) : w_case4 L0 xs x4 I J INV := by
  unfold w_case4
  exact op_format h (fun k I1 J1 hw => hw)
end PU22
