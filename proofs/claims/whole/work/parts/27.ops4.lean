section PU7
theorem INV.asked {I : am_MI} {J : am_MJ} (h : INV I J) (h4 : I 0 4 = 2) (h7 : I 28 7 = 1) (h8 : I 28 8 = 1) {c : CH} {v : VT} {cur t p n q : Nat} {b y : Int32} {z r : Int64} (c1 : rcC c I J) (c2 : rmC c I J) (hh : mtR c v cur t I J) (hn : n < 16) (e1 : I 17 5 = nI n) (e2 : I 28 20 = nI n) (hp : p < 101) (hb : b = 0 ∨ b = 1) :
    INV (am_ui (am_ui (am_ui (am_ui (am_ui (am_ui (am_ui I 18 n (nI p)) 19 n b) 17 5 (nI (n + 1))) 28 0 y) 40 n (nI p)) 41 n b) 28 20 (nI (n + 1))) (am_uj (am_uj (am_uj J 20 n z) 45 0 r) 42 n z) := by
  obtain ⟨c0, b1, b2, b3, b4, b5, -⟩ := h
  obtain ⟨d1, d2, d3, d4, d5, d6, d7, d8, d9, d10, d11, d12⟩ := hh
  generalize hE : am_ui (am_ui (am_ui (am_ui (am_ui (am_ui (am_ui I 18 n (nI p)) 19 n b) 17 5 (nI (n + 1))) 28 0 y) 40 n (nI p)) 41 n b) 28 20 (nI (n + 1)) = E
  generalize hF : am_uj (am_uj (am_uj J 20 n z) 45 0 r) 42 n z = F
  have kk : ∀ k, k ≠ 17 → k ≠ 18 → k ≠ 19 → k ≠ 28 → k ≠ 40 → k ≠ 41 → E k = I k := fun k p1 p2 p3 p4 p5 p6 => by rw [← hE, pu_k p4, pu_k p6, pu_k p5, pu_k p4, pu_k p1, pu_k p3, pu_k p2]
  have k28 : ∀ q, q ≠ 0 → q ≠ 20 → E 28 q = I 28 q := fun q p1 p2 => by rw [← hE, pu_f p2, pu_k (by decide), pu_k (by decide), pu_f p1, pu_k (by decide), pu_k (by decide), pu_k (by decide)]
  have kj : ∀ k, k ≠ 20 → k ≠ 45 → k ≠ 42 → F k = J k := fun k p1 p2 p3 => by rw [← hF, pj_k p3, pj_k p2, pj_k p1]
  refine ⟨c, c1.mv (by rw [kk 1 (by decide) (by decide) (by decide) (by decide) (by decide) (by decide)]) (by rw [kj 1 (by decide) (by decide) (by decide)]) (by rw [kk 0 (by decide) (by decide) (by decide) (by decide) (by decide) (by decide)]) (kj 2 (by decide) (by decide) (by decide)), c2.mv (k28 4 (by decide) (by decide)) (by rw [kj 28 (by decide) (by decide) (by decide)]) (k28 6 (by decide) (by decide)) (kj 30 (by decide) (by decide) (by decide)), fun k hk => by rw [kk 3 (by decide) (by decide) (by decide) (by decide) (by decide) (by decide), kk 29 (by decide) (by decide) (by decide) (by decide) (by decide) (by decide)]; exact b3 k hk, by rw [kk 1 (by decide) (by decide) (by decide) (by decide) (by decide) (by decide), k28 2 (by decide) (by decide)]; exact b4, Or.inr ⟨(k28 2 (by decide) (by decide)).trans d10, Or.inr ⟨cur, d4, t, d5, d11⟩⟩, Or.inr (Or.inr ⟨?_, (k28 7 (by decide) (by decide)).trans h7, (k28 8 (by decide) (by decide)).trans h8, v, cur, t, d1, ?_, ?_, d4, d5, ?_, ?_, (k28 15 (by decide) (by decide)).trans d8, (k28 16 (by decide) (by decide)).trans d9, (k28 2 (by decide) (by decide)).trans d10, d11, ?_⟩)⟩
  · rw [kk 0 (by decide) (by decide) (by decide) (by decide) (by decide) (by decide)]; exact h4
  · exact d2.mv (fun k x w => kk k (by omega) (by omega) (by omega) (by omega) (by omega) (by omega)) (fun k x w => kj k (by omega) (by omega) (by omega))
  · exact d3.mv (fun k x w => kk k (by omega) (by omega) (by omega) (by omega) (by omega) (by omega)) (fun k x w => kj k (by omega) (by omega) (by omega))
  · rw [kk 0 (by decide) (by decide) (by decide) (by decide) (by decide) (by decide)]; exact d6
  · rw [kk 0 (by decide) (by decide) (by decide) (by decide) (by decide) (by decide)]; exact d7
  · obtain ⟨n', a, g1, g2, g3, g4, g5, g6, g7, g8⟩ := d12
    have hnn : n' = n := (nI_eq (by omega) (by omega)).mp (g3.symm.trans e1)
    subst hnn
    refine ⟨n' + 1, a, by omega, g2, ?_, ?_, ?_, ?_, fun k hk => ?_, fun k hk => ?_⟩
    · rw [← hE, pu_k (by decide), pu_k (by decide), pu_k (by decide), pu_k (by decide), pu_s]
    · rw [← hE, pu_s]
    · rw [← hE, pu_k (by decide), pu_k (by decide), pu_k (by decide), pu_k (by decide), pu_f (by decide), pu_k (by decide), pu_k (by decide)]; exact g5
    · exact (k28 25 (by decide) (by decide)).trans g6
    · by_cases e : k = n'
      · subst e
        refine ⟨⟨p, hp, ?_, ?_⟩, ?_, ?_, ?_⟩
        · rw [← hE, pu_k (by decide), pu_k (by decide), pu_k (by decide), pu_k (by decide), pu_k (by decide), pu_k (by decide), pu_s]
        · rw [← hE, pu_k (by decide), pu_k (by decide), pu_s]
        · rw [← hE, pu_k (k := 28) (by decide), pu_k (by decide), pu_k (by decide), pu_k (by decide), pu_k (by decide), pu_s, pu_k (by decide), pu_s]
        · rw [← hE, pu_k (by decide), pu_s]; exact hb
        · rw [← hF, pj_k (by decide), pj_k (by decide), pj_s, pj_s]
      · obtain ⟨⟨p', hp', w1, w2⟩, w3, w4, w5⟩ := g7 k (by omega)
        have r18 : E 18 k = I 18 k := by rw [← hE, pu_k (by decide), pu_k (by decide), pu_k (by decide), pu_k (by decide), pu_k (by decide), pu_k (by decide), pu_f e]
        have r19 : E 19 k = I 19 k := by rw [← hE, pu_k (by decide), pu_k (by decide), pu_k (by decide), pu_k (by decide), pu_k (by decide), pu_f e, pu_k (by decide)]
        have r40 : E 40 k = I 40 k := by rw [← hE, pu_k (by decide), pu_k (by decide), pu_f e, pu_k (by decide), pu_k (by decide), pu_k (by decide), pu_k (by decide)]
        have r41 : E 41 k = I 41 k := by rw [← hE, pu_k (by decide), pu_f e, pu_k (by decide), pu_k (by decide), pu_k (by decide), pu_k (by decide), pu_k (by decide)]
        have s20 : F 20 k = J 20 k := by rw [← hF, pj_k (by decide), pj_k (by decide), pj_f e]
        have s42 : F 42 k = J 42 k := by rw [← hF, pj_f e, pj_k (by decide), pj_k (by decide)]
        exact ⟨⟨p', hp', r18.trans w1, r40.trans w2⟩, by rw [r19, r41]; exact w3, by rw [r41]; exact w4, by rw [s20, s42]; exact w5⟩
    · rw [kj 22 (by decide) (by decide) (by decide), kj 44 (by decide) (by decide) (by decide)]; exact g8 k hk
theorem op_queue {I : am_MI} {J : am_MJ} {a b : Int32} {z : Int64} {K : Int32 → am_MI → am_MJ → Prop} (h : INV I J) (hb : b = 0 ∨ b = 1) (hK : ∀ k I1 J1, w_M_queue a b z I1 J1 (fun r I2 J2 => FINi INV k r I2 J2) FF → K k I1 J1) : w_L_queue a b z I J K FF := by
  unfold w_L_queue w_B_queue
  have hnar : vp_nar .boolean b = b := by rcases hb with rfl | rfl <;> rfl
  have err : ∀ y : Int32, ¬ y ≤ 0 → w_M_queue_40 a b z y I J (fun r I2 J2 => FINi INV y r I2 J2) FF := fun y hy => by
    unfold w_M_queue_40
    rw [pu_s]
    exact ⟨fun q => absurd q hy, fun _ => fin_i (pu_s ..) (fun q => absurd (by rw [q]; decide) hy) (h.code y)⟩
  rcases h.split with ⟨h4, hm⟩ | ⟨h4, h7, h8⟩
  · refine s_B_need0 h4 (Or.inl ⟨rfl, hK _ _ _ ?_⟩)
    unfold w_M_queue
    exact s_M_isReady0 hm ⟨fun q => absurd rfl q, fun _ => err 1 (by decide)⟩
  · obtain ⟨c, v, cur, t, c1, c2, hh⟩ := h.mt h4
    obtain ⟨n, q, g1, g2, g3, g4, -⟩ := hh.2.2.2.2.2.2.2.2.2.2.2
    have e100 : ∀ {j : Nat}, j < 2 ^ 31 → (nI j ≤ (100 : Int32) ↔ j ≤ 100) := fun hj => nI_leI (b := 100) hj (by omega)
    have e101 : ∀ {j : Nat}, j < 2 ^ 31 → (nI j < (101 : Int32) ↔ j < 101) := fun hj => nI_ltI (b := 101) hj (by omega)
    refine s_B_need1 h4 ⟨fun ha => Or.inr (Or.inl ⟨rfl, hK _ _ _ ?_⟩), fun ha => ⟨fun ha2 => ?_, fun ha2 => Or.inr (Or.inl ⟨rfl, hK _ _ _ ?_⟩)⟩⟩
    · unfold w_M_queue w_M_queue_22
      exact s_M_isReady1 h7 h8 ⟨fun _ => ⟨fun _ => err 2 (by decide), fun w => absurd ha w⟩, fun w => absurd w (by decide)⟩
    · obtain ⟨p, hp, rfl⟩ := nI_of ha
      have hp101 := (e101 hp).mp ha2
      rw [g3]
      have e16 : nI n < (16 : Int32) ↔ n < 16 := nI_ltI (b := 16) (by omega) (by omega)
      refine ⟨fun hn => ?_, fun hn => Or.inr (Or.inr ⟨rfl, hK _ _ _ ?_⟩)⟩
      · have hn16 := e16.mp hn
        unfold w_R_ask
        rw [g3, nI_clamp (by omega), hnar]
        refine ⟨vp_in_nI hn16 (by omega), vp_in_nI hn16 (by omega), vp_in_nI hn16 (by omega), in01, hK _ _ _ ?_⟩
        rw [pu_k (k := 19) (by decide), pu_k (k := 18) (by decide), g3, show nI n + (1 : Int32) = nI (n + 1) from nI_1 n]
        generalize hE : am_ui (am_ui (am_ui I 18 n (nI p)) 19 n b) 17 5 (nI (n + 1)) = E
        have k28 : ∀ f, E 28 f = I 28 f := fun f => by rw [← hE, pu_k (by decide), pu_k (by decide), pu_k (by decide)]
        unfold w_M_queue
        refine s_M_isReady1 ((k28 7).trans h7) ((k28 8).trans h8) ⟨fun _ => ⟨fun w => absurd w ha, fun _ => ⟨fun _ => ?_, fun w => absurd ((e100 hp).mpr (by omega)) w⟩⟩, fun w => absurd w (by decide)⟩
        rw [k28 20, g4]
        refine ⟨fun _ => ?_, fun w => absurd ((nI_eq (b := 16) (by omega) (by omega)).mp w) (by omega)⟩
        unfold w_M_queue_40
        have f0 : am_ui E 28 0 0 28 20 = nI n := by rw [pu_f (by decide), k28 20, g4]
        rw [f0, pu_s, nI_clamp (by omega), hnar]
        have f1 : am_ui (am_ui E 28 0 0) 40 n (nI p) 28 20 = nI n := by rw [pu_k (by decide)]; exact f0
        rw [f1, nI_clamp (by omega)]
        have f2 : am_ui (am_ui (am_ui E 28 0 0) 40 n (nI p)) 41 n b 28 20 = nI n := by rw [pu_k (by decide)]; exact f1
        rw [f2, nI_clamp (by omega), show nI n + (1 : Int32) = nI (n + 1) from nI_1 n, pu_s]
        refine ⟨fun _ => ⟨vp_in_nI hn16 (by omega), vp_in_nI hn16 (by omega), vp_in_nI hn16 (by omega), ?_⟩, fun w => absurd (by decide) w⟩
        rw [show nI (n + 1) - (1 : Int32) = nI n from nI_pred n]
        subst hE
        refine fin_i ?_ (fun _ => ?_) (h.asked (q := 0) h4 h7 h8 c1 c2 hh hn16 g3 g4 hp101 hb)
        · rw [pu_f (by decide), pu_k (by decide), pu_k (by decide), pu_s]
        · rw [pj_k (by decide)]; exact pj_s ..
      · unfold w_M_queue
        refine s_M_isReady1 h7 h8 ⟨fun _ => ⟨fun w => absurd w ha, fun _ => ⟨fun _ => ?_, fun w => absurd ((e100 hp).mpr (by omega)) w⟩⟩, fun w => absurd w (by decide)⟩
        have : n = 16 := by
          have : ¬ n < 16 := fun w => hn (e16.mpr w)
          omega
        subst this
        rw [g4]
        exact ⟨fun w => absurd rfl w, fun _ => err 3 (by decide)⟩
    · obtain ⟨p, hp, rfl⟩ := nI_of ha
      unfold w_M_queue w_M_queue_22
      refine s_M_isReady1 h7 h8 ⟨fun _ => ⟨fun w => absurd w ha, fun _ => ⟨fun w => absurd ((e101 hp).mpr ?_) ha2, fun _ => err 2 (by decide)⟩⟩, fun w => absurd w (by decide)⟩
      have := (e100 hp).mp w
      omega
theorem case16 {L0 : Nat} {xs : Nat → Int32} {x4 : Int32} {I : am_MI} {J : am_MJ} (h0 : 0 ≤ x4.toInt) (h5 : x4.toInt + 5 ≤ L0) (hL : L0 ≤ 2560) (h : INV I J) : w_case16 L0 xs x4 I J INV := by
  have x1 := xin (j := 1) h0 h5 hL (by omega)
  have x2 := xin (j := 2) h0 h5 hL (by omega)
  have x3 := xin (j := 3) h0 h5 hL (by omega)
  have x4' := xin (j := 4) h0 h5 hL (by omega)
  refine ⟨x1, x2, fun e => ⟨x3, x4', op_queue h (Or.inl rfl) (fun k I1 J1 hm => ⟨x1, x2, fun _ => ⟨x3, x4', hm⟩, fun z => absurd e z⟩)⟩, fun e => ⟨x3, x4', op_queue h (Or.inr rfl) (fun k I1 J1 hm => ⟨x1, x2, fun z => absurd z e, fun _ => ⟨x3, x4', hm⟩⟩)⟩⟩
end PU7
