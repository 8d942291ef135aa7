section PU6
theorem pu_ss (I : am_MI) (k f : Nat) (x y : Int32) : am_ui (am_ui I k f x) k f y = am_ui I k f y := by
  funext k' f'
  by_cases e : k' = k
  · subst e
    by_cases e2 : f' = f
    · rw [e2, pu_s, pu_s]
    · rw [pu_f e2, pu_f e2, pu_f e2]
  · rw [pu_k e, pu_k e, pu_k e]
theorem s_M_create_34 {v : VT} {I : am_MI} {J : am_MJ} {Q : Int32 → am_MI → am_MJ → Prop} {X : String → am_MI → am_MJ → Prop} {a : Int32} (hm : rmV v I J) (h : ∀ P f, f ≤ 8 → (f < 8 → vN v f = 0) → (∀ g, g < f → vN v g ≠ 0) → w_M_create_55 a (nI f) I J Q X P) : w_M_create_34 a 0 I J Q X := by
  unfold w_M_create_34
  intro P hP
  have key : ∀ n f, f + n = 8 → (∀ g, g < f → vN v g ≠ 0) → P (nI f) I J := by
    intro n
    induction n with
    | zero =>
      intro f hf hn
      obtain rfl : f = 8 := by omega
      exact hP _ _ _ (br_t (nI_le (a := 8) (by omega) (by omega)) (h P 8 (by omega) (fun z => absurd z (by omega)) hn))
    | succ n ih =>
      intro f hf hn
      refine hP _ _ _ (br_f (nI_ge (b := 8) (by omega) (by omega)) ⟨vp_in_nI (by omega) (by omega), ?_⟩)
      rw [nI_clamp (by omega), hm.1 f (by omega), nI_1]
      refine ⟨fun e => h P f (by omega) (fun _ => e) hn, fun e => ih (f + 1) (by omega) (fun g hg => ?_)⟩
      by_cases eg : g = f
      · rw [eg]; exact e
      · exact hn g (by omega)
  exact key 8 0 (by omega) (fun g hg => absurd hg (by omega))
theorem s_M_create_bad {v : VT} {I : am_MI} {J : am_MJ} {Q : Int32 → am_MI → am_MJ → Prop} {X : String → am_MI → am_MJ → Prop} {a y : Int32} (hm : rmV v I J) (hy : ¬ y ≤ 0) (hq : Q 0 (am_ui I 28 0 y) J) : w_M_create_29 a y I J Q X := by
  unfold w_M_create_29
  refine s_M_create_34 (hm.mv (fun k x z => pu_k (by omega) ..) (fun k x z => rfl)) (fun P f _ _ _ => ?_)
  unfold w_M_create_55 w_M_create_73 w_M_create_77
  rw [pu_s]
  refine ⟨fun _ => ⟨fun z => ?_, fun _ => ?_⟩, fun z => absurd (by rw [z]; decide) hy⟩
  · rw [pu_s] at z; exact absurd z hy
  · rw [pu_ss]; exact hq
theorem op_create {I : am_MI} {J : am_MJ} {a : Int32} {K : Int32 → am_MI → am_MJ → Prop} (h : INV I J) (hK : ∀ k I1 J1, w_M_create a I1 J1 (fun r I2 J2 => FINi INV k r I2 J2) FF → K k I1 J1) : w_L_create a I J K FF := by
  unfold w_L_create w_B_create
  rcases h.split with ⟨h4, hm⟩ | ⟨h4, h7, h8⟩
  · refine s_B_need0 h4 (Or.inl ⟨rfl, hK _ _ _ ?_⟩)
    unfold w_M_create
    refine s_M_isReady0 hm ⟨fun z => absurd rfl z, fun _ => ?_⟩
    unfold w_M_create_29 w_M_create_34
    intro P hP
    -- the reference looks for a number all the same: no transfer, no change
    have key : ∀ n f, f + n = 8 → P (nI f) (am_ui I 28 0 1) J := by
      have e55 : ∀ f, w_M_create_55 a f (am_ui I 28 0 1) J (fun r I2 J2 => FINi INV 1 r I2 J2) FF P := fun f => by
        unfold w_M_create_55 w_M_create_73 w_M_create_77
        rw [pu_s]
        refine ⟨fun _ => ⟨fun z => ?_, fun _ => ?_⟩, fun z => absurd z (by decide)⟩
        · rw [pu_s] at z; exact absurd z (by decide)
        · rw [pu_ss]; exact fin_i (pu_s ..) (fun z => absurd z (by decide)) (h.code 1)
      intro n
      induction n with
      | zero =>
        intro f hf
        obtain rfl : f = 8 := by omega
        exact hP _ _ _ (br_t (nI_le (a := 8) (by omega) (by omega)) (e55 _))
      | succ n ih =>
        intro f hf
        refine hP _ _ _ (br_f (nI_ge (b := 8) (by omega) (by omega)) ⟨vp_in_nI (by omega) (by omega), fun _ => e55 _, fun _ => ?_⟩)
        rw [nI_1]
        exact ih (f + 1) (by omega)
    exact key 8 0 (by omega)
  · obtain ⟨c, v, cur, t, c1, c2, hh⟩ := h.mt h4
    have hv := hh.1
    have hc := hh.2.1
    have hm := hh.2.2.1
    have two : w_M_create_24 a I J (fun r I2 J2 => FINi INV 2 r I2 J2) FF := by
      unfold w_M_create_24
      exact s_M_create_bad hm (by decide) (fin_i (pu_s ..) (fun z => absurd z (by decide)) (h.code 2))
    refine s_B_need1 h4 ⟨fun ha => Or.inr (Or.inl ⟨rfl, hK _ _ _ ?_⟩), fun ha => ?_⟩
    · unfold w_M_create
      exact s_M_isReady1 h7 h8 ⟨fun _ => ⟨fun _ => two, fun z => absurd ha z⟩, fun z => absurd z (by decide)⟩
    · refine s_D_numberOf hc (fun f hf e1 e2 => ⟨fun z => absurd z (nI_neg1 (by omega)), fun _ => Or.inr (Or.inl ⟨rfl, hK _ _ _ ?_⟩)⟩) (fun hn => ⟨fun _ => ?_, fun z => absurd rfl z⟩)
      · unfold w_M_create
        refine s_M_isReady1 h7 h8 ⟨fun _ => ⟨fun z => absurd z ha, fun _ => ?_⟩, fun z => absurd z (by decide)⟩
        exact s_M_numberOf hm (fun g hg g1 g2 g3 => ⟨fun z => absurd z (nI_pos (by omega)), fun _ => two⟩) (fun z => absurd e1 (z f hf (by rw [e1]; exact ha)))
      · -- the name is new: which number is the least without a file
        refine s_D_numberOf hc (fun f hf e1 e2 => ⟨fun _ => ?_, fun z => absurd z (nI_neg1 (by omega))⟩) (fun h0 => ⟨fun z => absurd rfl z, fun _ => Or.inr (Or.inr ⟨rfl, hK _ _ _ ?_⟩)⟩)
        · rw [nI_clamp (by omega)]
          refine ⟨vp_in_nI hf (by omega), in01, hK _ _ _ ?_⟩
          have m1 : rmV v (am_ui I (6 + f) 0 a) (am_uj J 45 (0 : Int32).toNatClampNeg (nI f).toInt64) := hm.mv (fun k x z => pu_k (by omega) ..) (fun k x z => pj_k (by omega) ..)
          unfold w_M_create
          refine s_M_isReady1 (by rw [pu_k (by omega)]; exact h7) (by rw [pu_k (by omega)]; exact h8) ⟨fun _ => ⟨fun z => absurd z ha, fun _ => ?_⟩, fun z => absurd z (by decide)⟩
          refine s_M_numberOf m1 (fun g hg g1 g2 g3 => absurd g2 (hn g hg)) (fun _ => ⟨fun _ => ?_, fun z => absurd (by decide) z⟩)
          unfold w_M_create_29
          refine s_M_create_34 (m1.mv (fun k x z => pu_k (by omega) ..) (fun k x z => rfl)) (fun P g hg g1 g2 => ?_)
          have : f = g := by
            rcases Nat.lt_trichotomy f g with q | q | q
            · exact absurd e1 (g2 f q)
            · exact q
            · exact absurd (g1 (by omega)) (e2 g q)
          subst this
          unfold w_M_create_55 w_M_create_73 w_M_create_77
          rw [pu_s]
          refine ⟨fun z => absurd rfl z, fun _ => ⟨fun _ => ⟨fun _ => ?_, fun z => absurd (by rw [pu_s]; decide) z⟩, fun z => absurd ((nI_eq (b := 8) (by omega) (by omega)).mp z) (by omega)⟩⟩
          rw [pu_ss]
          refine s_M_drop (v := v) hf ⟨vp_in_nI hf (by omega), ?_⟩
          rw [nI_clamp (by omega)]
          refine fin_i ?_ (fun _ => pj_s ..) (h.named h4 h7 h8 c1 c2 hh hf e1 ha)
          rw [pu_k (by decide), pu_k (by decide), pu_k (by decide), pu_k (by decide), pu_k (by decide), pu_s]
        · unfold w_M_create
          refine s_M_isReady1 h7 h8 ⟨fun _ => ⟨fun z => absurd z ha, fun _ => ?_⟩, fun z => absurd z (by decide)⟩
          refine s_M_numberOf hm (fun g hg g1 g2 g3 => absurd g2 (hn g hg)) (fun _ => ⟨fun _ => ?_, fun z => absurd (by decide) z⟩)
          unfold w_M_create_29
          refine s_M_create_34 (hm.mv (fun k x z => pu_k (by omega) ..) (fun k x z => rfl)) (fun P g hg g1 g2 => ?_)
          have : g = 8 := by
            by_cases q : g < 8
            · exact absurd (g1 q) (h0 g q)
            · omega
          subst this
          unfold w_M_create_55 w_M_create_77
          rw [pu_s]
          refine ⟨fun z => absurd rfl z, fun _ => ⟨fun z => absurd rfl z, fun _ => ⟨fun z => ?_, fun _ => ?_⟩⟩⟩
          · rw [pu_s] at z; exact absurd z (by decide)
          · rw [pu_ss]; exact fin_i (pu_s ..) (fun z => absurd z (by decide)) (h.code 3)
theorem case6 {L0 : Nat} {xs : Nat → Int32} {x4 : Int32} {I : am_MI} {J : am_MJ} (h0 : 0 ≤ x4.toInt) (h5 : x4.toInt + 5 ≤ L0) (hL : L0 ≤ 2560) (h : INV I J) : w_case6 L0 xs x4 I J INV :=
  ⟨xin (j := 1) h0 h5 hL (by omega), op_create h (fun _ _ _ hm => ⟨xin (j := 1) h0 h5 hL (by omega), hm⟩)⟩
/-- a loop is stuck -/
theorem INV.stuck {I : am_MI} {J : am_MJ} (h : INV I J) {j : Nat} {y : Int32} (hj : j < 69) (hz : I 28 2 = 0) : INV (am_ui (am_ui (am_ui I 3 j 1) 28 0 y) 29 j 1) J := by
  obtain ⟨c, a1, a2, a3, a4, a5, a6⟩ := h
  have kk : ∀ k, k ≠ 3 → k ≠ 28 → k ≠ 29 → am_ui (am_ui (am_ui I 3 j 1) 28 0 y) 29 j 1 k = I k := fun k p q r => by rw [pu_k r, pu_k q, pu_k p]
  have k28 : ∀ f, f ≠ 0 → am_ui (am_ui (am_ui I 3 j 1) 28 0 y) 29 j 1 28 f = I 28 f := fun f p => by rw [pu_k (by decide), pu_f p, pu_k (by decide)]
  refine ⟨c, a1.mv (by rw [kk 1 (by decide) (by decide) (by decide)]) rfl (by rw [kk 0 (by decide) (by decide) (by decide)]) rfl, a2.mv (k28 4 (by decide)) rfl (k28 6 (by decide)) rfl, fun k hk => ?_, by rw [kk 1 (by decide) (by decide) (by decide), k28 2 (by decide)]; exact a4, by rw [k28 2 (by decide)]; exact a5, ?_⟩
  · rw [pu_k (k := 29) (by decide), pu_k (by decide)]
    by_cases e : k = j
    · rw [e, pu_s, pu_s]
    · rw [pu_f e, pu_f e, pu_k (by decide), pu_k (by decide)]
      exact a3 k hk
  · rw [kk 0 (by decide) (by decide) (by decide), k28 7 (by decide), k28 8 (by decide)]
    exact a6.imp id (Or.imp id (fun ⟨b1, b2, b3, v, cur, t, b4⟩ => absurd (hz.symm.trans b4.2.2.2.2.2.2.2.2.2.1) (by decide)))
theorem op_stuck {I : am_MI} {J : am_MJ} {a b : Int32} {K : Int32 → am_MI → am_MJ → Prop} (h : INV I J) (hK : ∀ k I1 J1, w_M_stuck a b I1 J1 (fun I2 J2 => I2 28 0 = k ∧ INV I2 J2) FF → K k I1 J1) : w_L_stuck a b I J K FF := by
  unfold w_L_stuck w_B_stuck
  have hmap : I 1 2 = I 28 2 := by obtain ⟨c, -, -, -, a4, -⟩ := h; exact a4
  have hmz : I 28 2 = 0 ∨ I 28 2 = 1 := by obtain ⟨c, -, -, -, -, a5, -⟩ := h; exact a5.imp id (fun z => z.1)
  have one : ∀ x, w_M_stuck_20 x I J (fun I2 J2 => I2 28 0 = 1 ∧ INV I2 J2) FF := fun x => by
    unfold w_M_stuck_20 w_M_stuck_36
    rw [pu_s]
    exact ⟨fun _ => ⟨pu_s .., h.code 1⟩, fun z => absurd z (by decide)⟩
  have e68 : ∀ {j : Nat}, j < 2 ^ 31 → ((68 : Int32) < nI j ↔ 68 < j) := fun hj => nI_ltI (a := 68) (by omega) hj
  have e69 : ∀ {j : Nat}, j < 2 ^ 31 → (nI j < (69 : Int32) ↔ j < 69) := fun hj => nI_ltI (b := 69) hj (by omega)
  have b01 : ∀ x : Int32, ¬ x < 0 → x ≤ 1 → x = 0 ∨ x = 1 := fun x p q => by
    obtain ⟨i, hi, rfl⟩ := nI_of p
    have := (nI_leI (b := 1) hi (by omega)).mp q
    have : i = 0 ∨ i = 1 := by omega
    exact this.imp (fun z => by rw [z]; rfl) (fun z => by rw [z]; rfl)
  refine ⟨fun ha => Or.inl ⟨rfl, hK _ _ _ ?_⟩, fun ha => ⟨fun ha2 => ?_, fun ha2 => Or.inl ⟨rfl, hK _ _ _ ?_⟩⟩⟩
  · exact ⟨fun _ => one _, fun z => absurd ha z⟩
  · obtain ⟨j, hj, rfl⟩ := nI_of ha
    have hj69 := (e69 hj).mp ha2
    have n68 : ¬ (68 : Int32) < nI j := fun z => by have := (e68 hj).mp z; omega
    have two : ∀ b : Int32, ¬ b < 0 → b ≤ 1 → w_B_stuck_39 (nI j) I J (fun I1 J2 => K 0 I1 J2) (fun E I4 J5 => (E = "java/lang/IllegalArgumentException" ∧ K 1 I4 J5) ∨ (E = "java/lang/IllegalStateException" ∧ K 2 I4 J5)) ∨ ¬ b < 0 := fun b p q => Or.inr p
    have good : ¬ b < 0 → b ≤ 1 → w_B_stuck_39 (nI j) I J (fun I1 J2 => K 0 I1 J2) (fun E I4 J5 => (E = "java/lang/IllegalArgumentException" ∧ K 1 I4 J5) ∨ (E = "java/lang/IllegalStateException" ∧ K 2 I4 J5)) := by
      intro p q
      unfold w_B_stuck_39
      rw [hmap, nI_clamp hj]
      refine ⟨fun hz => ⟨vp_in_nI hj69 (by omega), hK _ _ _ ?_⟩, fun hz => Or.inr ⟨rfl, hK _ _ _ ?_⟩⟩
      · refine ⟨fun z => absurd z ha, fun _ => ⟨fun z => absurd z n68, fun _ => ⟨fun z => absurd z p, fun _ => ⟨fun _ => ?_, fun z => absurd q z⟩⟩⟩⟩
        rw [pu_k (by decide)]
        refine ⟨fun _ => ?_, fun z => absurd hz z⟩
        unfold w_M_stuck_36
        rw [pu_s, nI_clamp hj]
        exact ⟨fun z => absurd rfl z, fun _ => ⟨vp_in_nI hj69 (by omega), by rw [pu_k (by decide), pu_s], h.stuck hj69 hz⟩⟩
      · refine ⟨fun z => absurd z ha, fun _ => ⟨fun z => absurd z n68, fun _ => ⟨fun z => absurd z p, fun _ => ⟨fun _ => ⟨fun z => absurd z hz, fun _ => ?_⟩, fun z => absurd q z⟩⟩⟩⟩
        unfold w_M_stuck_36
        rw [pu_s]
        exact ⟨fun _ => ⟨pu_s .., h.code 2⟩, fun z => absurd z (by decide)⟩
    refine ⟨fun hb => good (by rw [hb]; decide) (by rw [hb]; decide), fun hb => ⟨fun hb2 => good (by rw [hb2]; decide) (by rw [hb2]; decide), fun hb2 => Or.inl ⟨rfl, hK _ _ _ ?_⟩⟩⟩
    refine ⟨fun z => absurd z ha, fun _ => ⟨fun z => absurd z n68, fun _ => ⟨fun _ => one _, fun p => ⟨fun q => ((b01 b p q).elim (fun z => absurd z hb) (fun z => absurd z hb2)), fun _ => one _⟩⟩⟩⟩
  · obtain ⟨j, hj, rfl⟩ := nI_of ha
    refine ⟨fun z => absurd z ha, fun _ => ⟨fun _ => one _, fun z => absurd ((e68 hj).mpr ?_) z⟩⟩
    have : ¬ j < 69 := fun z => ha2 ((e69 hj).mpr z)
    omega
theorem case0 {L0 : Nat} {xs : Nat → Int32} {x4 : Int32} {I : am_MI} {J : am_MJ} (h0 : 0 ≤ x4.toInt) (h5 : x4.toInt + 5 ≤ L0) (hL : L0 ≤ 2560) (h : INV I J) : w_case0 L0 xs x4 I J INV := by
  unfold w_case0
  refine ⟨xin (j := 1) h0 h5 hL (by omega), xin (j := 2) h0 h5 hL (by omega), ?_⟩
  refine op_stuck (K := fun r5 I3 J4 => vp_in (x4 + (1 : Int32)) L0 ∧ (vp_in (x4 + (2 : Int32)) L0 ∧ w_M_stuck (xs (x4 + (1 : Int32)).toNatClampNeg) (xs (x4 + (2 : Int32)).toNatClampNeg) I3 J4 (fun I8 J9 => w_M_thrown I8 J9 (fun r13 I11 J12 => (r13 = r5 → INV I11 J12) ∧ (¬ (r13 = r5) → False)) (fun _ _ _ => False)) (fun _ _ _ => False))) h (fun k I1 J1 hm => ⟨xin (j := 1) h0 h5 hL (by omega), xin (j := 2) h0 h5 hL (by omega), ?_⟩)
  have mono : ∀ {Q Q2 : am_MI → am_MJ → Prop}, (∀ I J, Q I J → Q2 I J) → ∀ {a b I J}, w_M_stuck a b I J Q FF → w_M_stuck a b I J Q2 FF := by
    intro Q Q2 hQ a b I J hw
    have m36 : ∀ x y, w_M_stuck_36 x y I J Q FF → w_M_stuck_36 x y I J Q2 FF := fun x y z => ⟨fun p => hQ _ _ (z.1 p), fun p => ⟨(z.2 p).1, hQ _ _ (z.2 p).2⟩⟩
    exact ⟨fun p => m36 _ _ (hw.1 p), fun p => ⟨fun q => m36 _ _ ((hw.2 p).1 q), fun q => ⟨fun r => m36 _ _ (((hw.2 p).2 q).1 r), fun r => ⟨fun s => ⟨fun u => m36 _ _ (((((hw.2 p).2 q).2 r).1 s).1 u), fun u => m36 _ _ (((((hw.2 p).2 q).2 r).1 s).2 u)⟩, fun s => m36 _ _ ((((hw.2 p).2 q).2 r).2 s)⟩⟩⟩⟩
  exact mono (fun I2 J2 z => ⟨fun _ => z.2, fun q => q z.1⟩) hm
end PU6
