section PU4
/-! the calls that make no transfer -/
def FINi (K : am_MI → am_MJ → Prop) (k r : Int32) (I : am_MI) (J : am_MJ) : Prop :=
  w_M_thrown I J (fun (r11 : Int32) (I9 : am_MI) (J10 : am_MJ) => (r11 = k → ((¬ k = 0 → (K I9 J10)) ∧ (k = 0 → (vp_in (0 : Int32) 1 ∧ (((lg_cmp (J10 45 (0 : Int32).toNatClampNeg) r.toInt64) = 0 → (K I9 J10)) ∧ (¬ ((lg_cmp (J10 45 (0 : Int32).toNatClampNeg) r.toInt64) = 0) → (False))))))) ∧ (¬ (r11 = k) → (False))) (fun _ _ _ => False)
def FINl (K : am_MI → am_MJ → Prop) (k : Int32) (r : Int64) (I : am_MI) (J : am_MJ) : Prop :=
  w_M_thrown I J (fun (r11 : Int32) (I9 : am_MI) (J10 : am_MJ) => (r11 = k → ((¬ k = 0 → (K I9 J10)) ∧ (k = 0 → (vp_in (0 : Int32) 1 ∧ (((lg_cmp (J10 45 (0 : Int32).toNatClampNeg) r) = 0 → (K I9 J10)) ∧ (¬ ((lg_cmp (J10 45 (0 : Int32).toNatClampNeg) r) = 0) → (False))))))) ∧ (¬ (r11 = k) → (False))) (fun _ _ _ => False)
theorem in01 : vp_in (0 : Int32) 1 := by unfold vp_in; decide
theorem fin_l {K : am_MI → am_MJ → Prop} {k : Int32} {r : Int64} {I : am_MI} {J : am_MJ} (hk : I 28 0 = k) (hr : k = 0 → J 45 0 = r) (hK : K I J) : FINl K k r I J := by
  unfold FINl w_M_thrown
  rw [hk]
  refine ⟨fun _ => ⟨fun _ => hK, fun h => ⟨in01, ?_⟩⟩, fun z => z rfl⟩
  rw [show (0 : Int32).toNatClampNeg = 0 from rfl, hr h, lg_same]
  exact ⟨fun _ => hK, fun z => z rfl⟩
theorem fin_i {K : am_MI → am_MJ → Prop} {k r : Int32} {I : am_MI} {J : am_MJ} (hk : I 28 0 = k) (hr : k = 0 → J 45 0 = r.toInt64) (hK : K I J) : FINi K k r I J := fin_l hk hr hK
/-- no file system is there: neither side is ready -/
theorem INV.split {I : am_MI} {J : am_MJ} (h : INV I J) : (I 0 4 ≠ 2 ∧ (I 28 7 = 0 ∨ I 28 7 = 1 ∧ I 28 8 = 0)) ∨ (I 0 4 = 2 ∧ I 28 7 = 1 ∧ I 28 8 = 1) := by
  obtain ⟨c, -, -, -, -, -, a6⟩ := h
  rcases a6 with ⟨e1, e2⟩ | ⟨e1, e2, e3⟩ | ⟨e1, e2, e3, -⟩
  · exact Or.inl ⟨by rw [e1]; decide, Or.inl e2⟩
  · exact Or.inl ⟨by rw [e1]; decide, Or.inr ⟨e2, e3⟩⟩
  · exact Or.inr ⟨e1, e2, e3⟩
theorem s_M_isReady0 {I : am_MI} {J : am_MJ} {Q : Int32 → am_MI → am_MJ → Prop} {X : String → am_MI → am_MJ → Prop} (h : I 28 7 = 0 ∨ I 28 7 = 1 ∧ I 28 8 = 0) (hq : Q 0 I J) : w_M_isReady I J Q X := by
  unfold w_M_isReady
  rcases h with h | ⟨h, h2⟩
  · rw [h]; exact ⟨fun _ => hq, fun z => absurd rfl z⟩
  · rw [h, h2]; exact ⟨fun z => absurd z (by decide), fun _ => ⟨fun _ => hq, fun z => absurd rfl z⟩⟩
theorem s_M_isReady1 {I : am_MI} {J : am_MJ} {Q : Int32 → am_MI → am_MJ → Prop} {X : String → am_MI → am_MJ → Prop} (h : I 28 7 = 1) (h2 : I 28 8 = 1) (hq : Q 1 I J) : w_M_isReady I J Q X := by
  unfold w_M_isReady
  rw [h, h2]
  exact ⟨fun z => absurd z (by decide), fun _ => ⟨fun z => absurd z (by decide), fun _ => hq⟩⟩
theorem s_B_need0 {I : am_MI} {J : am_MJ} {Q : am_MI → am_MJ → Prop} {X : String → am_MI → am_MJ → Prop} (h : I 0 4 ≠ 2) (hx : X "java/lang/IllegalStateException" I J) : w_B_needMounted I J Q X := ⟨fun z => absurd z h, fun _ => hx⟩
theorem s_B_need1 {I : am_MI} {J : am_MJ} {Q : am_MI → am_MJ → Prop} {X : String → am_MI → am_MJ → Prop} (h : I 0 4 = 2) (hq : Q I J) : w_B_needMounted I J Q X := ⟨fun _ => hq, fun z => absurd h z⟩
abbrev FF : String → am_MI → am_MJ → Prop := fun _ _ _ => False
theorem op_find {I : am_MI} {J : am_MJ} {a : Int32} {K : Int32 → am_MI → am_MJ → Prop} (h : INV I J) (hK : ∀ k I1 J1, w_M_find a I1 J1 (fun r I2 J2 => FINi INV k r I2 J2) FF → K k I1 J1) : w_L_find a I J K FF := by
  unfold w_L_find w_B_find
  have hi := fun x => h.code x
  rcases h.split with ⟨h4, hm⟩ | ⟨h4, h7, h8⟩
  · refine s_B_need0 h4 ⟨rfl, hK _ _ _ ?_⟩
    unfold w_M_find
    refine s_M_isReady0 hm ⟨fun _ => ?_, fun z => absurd rfl z⟩
    unfold w_M_find_13
    rw [pu_s]
    exact ⟨fun z => absurd z (by decide), fun _ => fin_i (pu_s ..) (fun z => absurd z (by decide)) (hi 1)⟩
  · refine s_B_need1 h4 ?_
    have h' := h
    obtain ⟨c, -, -, -, -, -, a6⟩ := h
    rcases a6 with ⟨e1, -⟩ | ⟨e1, -⟩ | ⟨-, -, -, v, cur, t, hv, hc, hm, -⟩
    · rw [h4] at e1; exact absurd e1 (by decide)
    · rw [h4] at e1; exact absurd e1 (by decide)
    have go : ∀ r : Int32, (∀ I1 J1, rmV v I1 J1 → FINi INV 0 r I1 J1 → w_M_numberOf a I1 J1 (fun r I2 J2 => FINi INV 0 r I2 J2) FF) → vp_in (0 : Int32) 1 ∧ K 0 I (am_uj J 45 (0 : Int32).toNatClampNeg r.toInt64) := by
      intro r hr
      refine ⟨in01, hK _ _ _ ?_⟩
      unfold w_M_find
      refine s_M_isReady1 h7 h8 ⟨fun z => absurd z (by decide), fun _ => ?_⟩
      unfold w_M_find_13
      rw [pu_s]
      refine ⟨fun _ => hr _ _ (hm.mv (fun k x y => pu_k (by omega) ..) (fun k x y => pj_k (by omega) ..)) (fin_i (pu_s ..) (fun _ => pj_s ..) ((h'.out _ _).code 0)), fun z => absurd (by decide) z⟩
    refine ⟨fun ha => ?_, fun ha => ?_⟩
    · refine s_D_numberOf hc (fun f hf e1 e2 => go _ (fun I1 J1 m1 m2 => ?_)) (fun hn => go _ (fun I1 J1 m1 m2 => ?_))
      · refine s_M_numberOf m1 (fun g hg g1 g2 g3 => ?_) (fun z => absurd e1 (z f hf (by rw [e1]; exact ha)))
        have : f = g := by
          rcases Nat.lt_trichotomy f g with q | q | q
          · exact absurd e1 (g3 f q (by rw [e1]; exact ha))
          · exact q
          · exact absurd g2 (e2 g q)
        subst this
        exact m2
      · exact s_M_numberOf m1 (fun g hg g1 g2 g3 => absurd g2 (hn g hg)) (fun _ => m2)
    · refine go _ (fun I1 J1 m1 m2 => s_M_numberOf m1 (fun g hg g1 g2 g3 => absurd (g2.trans ha) g1) (fun _ => m2))
theorem case7 {L0 : Nat} {xs : Nat → Int32} {x4 : Int32} {I : am_MI} {J : am_MJ} (h0 : 0 ≤ x4.toInt) (h5 : x4.toInt + 5 ≤ L0) (hL : L0 ≤ 2560) (h : INV I J) : w_case7 L0 xs x4 I J INV :=
  ⟨xin (j := 1) h0 h5 hL (by omega), op_find h (fun _ _ _ hm => ⟨xin (j := 1) h0 h5 hL (by omega), hm⟩)⟩
/-- which file the class finds behind a number -/
theorem s_B_entryOf {v : VT} {I : am_MI} {J : am_MJ} {Q : Nat → am_MI → am_MJ → Prop} {X : String → am_MI → am_MJ → Prop} {a : Int32} (h4 : I 0 4 = 2) (hc : rcV v I J) (h1 : ∀ f, f < 8 → a = nI f → vN v f ≠ 0 → Q f I J) (h0 : (∀ f, f < 8 → a = nI f → vN v f = 0) → X "java/lang/IllegalArgumentException" I J) : w_B_entryOf a I J Q X := by
  unfold w_B_entryOf
  refine s_B_need1 h4 ⟨fun h => h0 (fun f hf e => ?_), fun h => ⟨fun h2 => h0 (fun f hf e => ?_), fun h2 => ?_⟩⟩
  · rw [e] at h
    exact absurd h (nI_pos (by omega))
  · rw [e] at h2
    exact absurd h2 (nI_ge (b := 8) hf (by omega))
  · obtain ⟨j, hj, rfl⟩ := nI_of h
    have hj8 : j < 8 := by
      have := nI_leI (a := 8) (b := j) (by omega) hj
      exact Nat.not_le.mp (fun z => h2 (this.mpr z))
    refine ⟨vp_in_nI hj8 (by omega), ?_⟩
    rw [nI_clamp hj, hc.1 j hj8]
    refine ⟨fun h3 => ⟨vp_in_nI hj8 (by omega), h1 j hj8 rfl h3⟩, fun h3 => h0 (fun f hf e => ?_)⟩
    rw [← (nI_eq hj (by omega)).mp e]
    exact h3
theorem s_B_entry0 {I : am_MI} {J : am_MJ} {Q : Nat → am_MI → am_MJ → Prop} {X : String → am_MI → am_MJ → Prop} {a : Int32} (h : I 0 4 ≠ 2) (hx : X "java/lang/IllegalStateException" I J) : w_B_entryOf a I J Q X := s_B_need0 h hx
/-- the mounted state, opened -/
theorem INV.mt {I : am_MI} {J : am_MJ} (h : INV I J) (h4 : I 0 4 = 2) : ∃ c v cur t, rcC c I J ∧ rmC c I J ∧ mtR c v cur t I J := by
  obtain ⟨c, a1, a2, -, -, -, a6⟩ := h
  rcases a6 with ⟨e1, -⟩ | ⟨e1, -⟩ | ⟨-, -, -, v, cur, t, hh⟩
  · rw [h4] at e1; exact absurd e1 (by decide)
  · rw [h4] at e1; exact absurd e1 (by decide)
  · exact ⟨c, v, cur, t, a1, a2, hh⟩
theorem op_length {I : am_MI} {J : am_MJ} {a : Int32} {K : Int32 → am_MI → am_MJ → Prop} (h : INV I J) (hK : ∀ k I1 J1, w_M_length a I1 J1 (fun r I2 J2 => FINi INV k r I2 J2) FF → K k I1 J1) : w_L_length a I J K FF := by
  unfold w_L_length w_B_length
  rcases h.split with ⟨h4, hm⟩ | ⟨h4, h7, h8⟩
  · refine s_B_entry0 h4 (Or.inl ⟨rfl, hK _ _ _ ?_⟩)
    unfold w_M_length
    refine s_M_isReady0 hm ⟨fun z => absurd rfl z, fun _ => ?_⟩
    unfold w_M_length_25
    rw [pu_s]
    exact ⟨fun z => absurd z (by decide), fun _ => fin_i (pu_s ..) (fun z => absurd z (by decide)) (h.code 1)⟩
  · obtain ⟨c, v, cur, t, c1, c2, hv, hc, hm, -⟩ := h.mt h4
    refine s_B_entryOf h4 hc (fun f hf e hn => ⟨in01, hK _ _ _ ?_⟩) (fun hn => Or.inr ⟨rfl, hK _ _ _ ?_⟩)
    · subst e
      unfold w_M_length
      have m1 : rmV v I (am_uj J 45 (0 : Int32).toNatClampNeg (I (6 + f) 2).toInt64) := hm.mv (fun k x y => rfl) (fun k x y => pj_k (by omega) ..)
      refine s_M_isReady1 h7 h8 ⟨fun _ => s_M_isFile m1 (fun g hg e2 g2 => ⟨fun z => absurd z (by decide), fun _ => ?_⟩) (fun z => absurd (z f hf rfl) hn), fun z => absurd z (by decide)⟩
      unfold w_M_length_25
      rw [pu_s]
      refine ⟨fun _ => ⟨vp_in_nI hf (by omega), fin_i (pu_s ..) (fun _ => ?_) ((h.out _ _).code 0)⟩, fun z => absurd (by decide) z⟩
      rw [show (0 : Int32).toNatClampNeg = 0 from rfl, pj_s, nI_clamp (by omega), pu_k (by decide), hm.2.1 f hf, hc.2.1 f hf]
    · unfold w_M_length
      refine s_M_isReady1 h7 h8 ⟨fun _ => s_M_isFile hm (fun g hg e2 g2 => absurd (hn g hg e2) g2) (fun _ => ⟨fun _ => ?_, fun z => absurd rfl z⟩), fun z => absurd z (by decide)⟩
      unfold w_M_length_25
      rw [pu_s]
      exact ⟨fun z => absurd z (by decide), fun _ => fin_i (pu_s ..) (fun z => absurd z (by decide)) (h.code 2)⟩
theorem case8 {L0 : Nat} {xs : Nat → Int32} {x4 : Int32} {I : am_MI} {J : am_MJ} (h0 : 0 ≤ x4.toInt) (h5 : x4.toInt + 5 ≤ L0) (hL : L0 ≤ 2560) (h : INV I J) : w_case8 L0 xs x4 I J INV :=
  ⟨xin (j := 1) h0 h5 hL (by omega), op_length h (fun _ _ _ hm => ⟨xin (j := 1) h0 h5 hL (by omega), hm⟩)⟩
theorem op_free {I : am_MI} {J : am_MJ} {K : Int32 → am_MI → am_MJ → Prop} (h : INV I J) (hK : ∀ k I1 J1, w_M_free I1 J1 (fun r I2 J2 => FINi INV k r I2 J2) FF → K k I1 J1) : w_L_free I J K FF := by
  unfold w_L_free w_B_free
  rcases h.split with ⟨h4, hm⟩ | ⟨h4, h7, h8⟩
  · refine s_B_need0 h4 ⟨rfl, hK _ _ _ ?_⟩
    unfold w_M_free
    refine s_M_isReady0 hm ⟨fun _ => ?_, fun z => absurd rfl z⟩
    unfold w_M_free_13 w_M_free_20
    intro P hP
    refine hP _ _ _ _ (br_f (by decide) ⟨fun _ => ?_, fun z => ?_⟩)
    · exact fin_i (pu_s ..) (fun z => absurd z (by decide)) (h.code 1)
    · rw [pu_s] at z; exact absurd z (by decide)
  · obtain ⟨c, v, cur, t, c1, c2, hv, hc, hm, -⟩ := h.mt h4
    refine s_B_need1 h4 (s_D_countFree hc ⟨in01, hK _ _ _ ?_⟩)
    unfold w_M_free
    refine s_M_isReady1 h7 h8 ⟨fun z => absurd z (by decide), fun _ => ?_⟩
    unfold w_M_free_13
    exact s_M_free_20 hv (hm.mv (fun k x y => pu_k (by omega) ..) (fun k x y => pj_k (by omega) ..)) (pu_s ..) (fin_i (pu_s ..) (fun _ => pj_s ..) ((h.out _ _).code 0))
theorem case14 {L0 : Nat} {xs : Nat → Int32} {x4 : Int32} {I : am_MI} {J : am_MJ} (h : INV I J) : w_case14 L0 xs x4 I J INV := op_free h (fun _ _ _ hm => hm)
theorem op_pageOf {I : am_MI} {J : am_MJ} {a b : Int32} {K : Int32 → am_MI → am_MJ → Prop} (h : INV I J) (hK : ∀ k I1 J1, w_M_pageOf a b I1 J1 (fun r I2 J2 => FINi INV k r I2 J2) FF → K k I1 J1) : w_L_pageOf a b I J K FF := by
  unfold w_L_pageOf w_B_pageOf
  rcases h.split with ⟨h4, hm⟩ | ⟨h4, h7, h8⟩
  · refine s_B_entry0 h4 (Or.inl ⟨rfl, hK _ _ _ ?_⟩)
    unfold w_M_pageOf
    refine s_M_isReady0 hm ⟨fun z => absurd rfl z, fun _ => ?_⟩
    unfold w_M_pageOf_25
    rw [pu_s]
    exact ⟨fun z => absurd z (by decide), fun _ => fin_i (pu_s ..) (fun z => absurd z (by decide)) (h.code 1)⟩
  · obtain ⟨c, v, cur, t, c1, c2, hv, hc, hm, -⟩ := h.mt h4
    have h61 := fun f (hf : f < 8) => hv.pg hf
    refine s_B_entryOf h4 hc (fun f hf e hn => ?_) (fun hn => Or.inr ⟨rfl, hK _ _ _ ?_⟩)
    · subst e
      -- the reference, once the class's answer is known
      have go : ∀ r : Int32, (∀ I1 J1, rmV v I1 J1 → FINi INV 0 r I1 J1 → (b < 0 → FINi INV 0 (-1) I1 J1) ∧ (¬ (b < 0) → w_M_pages (nI f) I1 J1 (fun r13 I11 J12 => (b < r13 → (vp_in (64 * nI f + b) 512 ∧ FINi INV 0 (I11 33 (64 * nI f + b).toNatClampNeg) I11 J12)) ∧ (¬ (b < r13) → FINi INV 0 (-1) I11 J12)) FF)) → vp_in (0 : Int32) 1 ∧ K 0 I (am_uj J 45 (0 : Int32).toNatClampNeg r.toInt64) := by
        intro r hr
        refine ⟨in01, hK _ _ _ ?_⟩
        have m1 : rmV v I (am_uj J 45 (0 : Int32).toNatClampNeg r.toInt64) := hm.mv (fun k x y => rfl) (fun k x y => pj_k (by omega) ..)
        unfold w_M_pageOf
        refine s_M_isReady1 h7 h8 ⟨fun _ => s_M_isFile m1 (fun g hg e2 g2 => ⟨fun _ => ?_, fun z => absurd z (by decide)⟩) (fun z => absurd (z f hf rfl) hn), fun z => absurd z (by decide)⟩
        unfold w_M_pageOf_25
        rw [pu_s]
        exact ⟨fun _ => hr _ _ (m1.mv (fun k x y => pu_k (by omega) ..) (fun k x y => rfl)) (fin_i (pu_s ..) (fun _ => pj_s ..) ((h.out _ _).code 0)), fun z => absurd (by decide) z⟩
      refine ⟨fun hb => go _ (fun I1 J1 m1 m2 => ⟨fun _ => m2, fun z => absurd hb z⟩), fun hb => ?_⟩
      obtain ⟨i, hi, rfl⟩ := nI_of hb
      have hl := hv.len hf
      have e1 : nI i < nI (np (vL v f)) ↔ i < np (vL v f) := nI_ltI hi (by have := h61 f hf; omega)
      rw [hc.2.1 f hf]
      refine s_B_pagesFor (by omega) ⟨fun hl2 => ?_, fun hl2 => ?_⟩
      · have hl3 := e1.mp hl2
        have h61f := h61 f hf
        refine s_D_pageAt hv hc hf hl3 (go _ (fun I1 J1 m1 m2 => ⟨fun z => absurd z hb, fun _ => s_M_pages hv m1 hf ⟨fun _ => ?_, fun z => absurd hl2 z⟩⟩))
        rw [pk_64]
        refine ⟨vp_in_nI (by omega) (by omega), ?_⟩
        rw [nI_clamp (by omega), m1.2.2.1 f hf i hl3]
        exact m2
      · exact go _ (fun I1 J1 m1 m2 => ⟨fun z => absurd z hb, fun _ => s_M_pages hv m1 hf ⟨fun z => absurd z hl2, fun _ => m2⟩⟩)
    · unfold w_M_pageOf
      refine s_M_isReady1 h7 h8 ⟨fun _ => s_M_isFile hm (fun g hg e2 g2 => absurd (hn g hg e2) g2) (fun _ => ⟨fun z => absurd rfl z, fun _ => ?_⟩), fun z => absurd z (by decide)⟩
      unfold w_M_pageOf_25
      rw [pu_s]
      exact ⟨fun z => absurd z (by decide), fun _ => fin_i (pu_s ..) (fun z => absurd z (by decide)) (h.code 2)⟩
theorem case15 {L0 : Nat} {xs : Nat → Int32} {x4 : Int32} {I : am_MI} {J : am_MJ} (h0 : 0 ≤ x4.toInt) (h5 : x4.toInt + 5 ≤ L0) (hL : L0 ≤ 2560) (h : INV I J) : w_case15 L0 xs x4 I J INV :=
  ⟨xin (j := 1) h0 h5 hL (by omega), xin (j := 2) h0 h5 hL (by omega), op_pageOf h (fun _ _ _ hm => ⟨xin (j := 1) h0 h5 hL (by omega), xin (j := 2) h0 h5 hL (by omega), hm⟩)⟩
end PU4
