section PU13
/-! serve -/
def isB (c : CH) (q : QT) (w : Nat → Bool) (b : Nat) : Prop := b < qn q ∧ w b = true ∧ ∀ k, k < qn q → w k = true → pd c.1 (qp q b) ≤ pd c.1 (qp q k) ∧ (k < b → pd c.1 (qp q b) < pd c.1 (qp q k))
theorem isB.un {c : CH} {q : QT} {w : Nat → Bool} {a b : Nat} (h : isB c q w a) (g : isB c q w b) : a = b := by
  obtain ⟨h1, h2, h3⟩ := h
  obtain ⟨g1, g2, g3⟩ := g
  have x := h3 b g1 g2
  have y := g3 a h1 h2
  rcases Nat.lt_trichotomy a b with z | z | z
  · have := y.2 z; omega
  · exact z
  · have := x.2 z; omega
/-- best among the first j -/
def isP (c : CH) (q : QT) (w : Nat → Bool) (j b : Nat) : Prop := b < j ∧ w b = true ∧ ∀ k, k < j → w k = true → pd c.1 (qp q b) ≤ pd c.1 (qp q k) ∧ (k < b → pd c.1 (qp q b) < pd c.1 (qp q k))
theorem isP.keep {c : CH} {q : QT} {w : Nat → Bool} {j b : Nat} (h : isP c q w j b) (hk : w j = true → pd c.1 (qp q b) ≤ pd c.1 (qp q j)) : isP c q w (j + 1) b := by
  obtain ⟨h1, h2, h3⟩ := h
  refine ⟨by omega, h2, fun k hk1 hw => ?_⟩
  by_cases e : k = j
  · rw [e] at hw ⊢; exact ⟨hk hw, fun z => by omega⟩
  · exact h3 k (by omega) hw
theorem isP.new {c : CH} {q : QT} {w : Nat → Bool} {j b : Nat} (h : isP c q w j b) (hw : w j = true) (hk : pd c.1 (qp q j) < pd c.1 (qp q b)) : isP c q w (j + 1) j := by
  obtain ⟨h1, h2, h3⟩ := h
  refine ⟨by omega, hw, fun k hk1 hwk => ?_⟩
  by_cases e : k = j
  · rw [e]; exact ⟨by omega, fun z => by omega⟩
  · have := (h3 k (by omega) hwk).1; exact ⟨by omega, fun _ => by omega⟩
theorem isP.first {c : CH} {q : QT} {w : Nat → Bool} {j : Nat} (h : ∀ k, k < j → w k = false) (hw : w j = true) : isP c q w (j + 1) j := by
  refine ⟨by omega, hw, fun k hk1 hwk => ?_⟩
  by_cases e : k = j
  · rw [e]; exact ⟨by omega, fun z => by omega⟩
  · rw [h k (by omega)] at hwk; exact absurd hwk (by decide)
theorem cnt_ex {P : Nat → Prop} {n : Nat} (h : 0 < cnt P n) : ∃ k, k < n ∧ P k := Classical.byContradiction (fun z => by
  rw [cnt_0 n (fun k hk y => z ⟨k, hk, y⟩)] at h
  omega)
theorem cnt_eq {P R : Nat → Prop} : ∀ n, (∀ k, k < n → (P k ↔ R k)) → cnt P n = cnt R n := by
  intro n
  induction n with
  | zero => intro _; rfl
  | succ n ih =>
    intro h
    have := ih (fun k hk => h k (by omega))
    by_cases e : P n
    · rw [cnt_t e, cnt_t ((h n (by omega)).mp e), this]
    · rw [cnt_f e, cnt_f (fun z => e ((h n (by omega)).mpr z)), this]
theorem cnt_rm {P R : Nat → Prop} {b : Nat} : ∀ n, b < n → P b → ¬ R b → (∀ k, k ≠ b → (P k ↔ R k)) → cnt P n = cnt R n + 1 := by
  intro n
  induction n with
  | zero => intro h; omega
  | succ n ih =>
    intro h hP hR hh
    by_cases e : b = n
    · subst e
      rw [cnt_t hP, cnt_f hR, cnt_eq b (fun k hk => hh k (by omega))]
    · have := ih (by omega) hP hR hh
      by_cases e2 : P n
      · rw [cnt_t e2, cnt_t ((hh n (by omega)).mp e2), this]
      · rw [cnt_f e2, cnt_f (fun z => e2 ((hh n (by omega)).mpr z)), this]
theorem cnt_all {P : Nat → Prop} : ∀ n, (∀ k, k < n → P k) → cnt P n = n := by
  intro n
  induction n with
  | zero => intro _; rfl
  | succ n ih => intro h; rw [cnt_t (h n (by omega)), ih (fun k hk => h k (by omega))]
/-- how the serving goes: m requests wait; on or off at the end, the chip, the answers -/
def SR (v : VT) (q : QT) : Nat → CH → (Nat → Bool) → (Nat → Int64) → Bool → CH → (Nat → Int64) → Prop
  | 0, c, _, s, o, c', s' => o = true ∧ c' = c ∧ s' = s
  | m + 1, c, w, s, o, c', s' => ∃ b, isB c q w b ∧
      ((qw q b = 0 ∧ c.2.2.1 = 0 ∧ o = false ∧ c' = c) ∨ (qw q b = 0 ∧ ¬ c.2.2.1 = 0 ∧ SR v q m (ch_go c (qp q b)) (fu w b false) (fu s b (c.2.2.2 (qp q b))) o c' s') ∨
       (¬ qw q b = 0 ∧ fre v (qp q b) ∧ c.2.2.1 = 0 ∧ o = false ∧ c' = c) ∨ (¬ qw q b = 0 ∧ fre v (qp q b) ∧ ¬ c.2.2.1 = 0 ∧ SR v q m (ch_wr c (qp q b) (qb q b)) (fu w b false) s o c' s') ∨
       (¬ qw q b = 0 ∧ ¬ fre v (qp q b) ∧ SR v q m c (fu w b false) s o c' s'))
theorem SR_40 {v : VT} {q : QT} {o : Bool} {c' : CH} {s' : Nat → Int64} : ∀ m c w s, SR v q m c w s o c' s' → ∀ p, p < 40 → c'.2.2.2 p = c.2.2.2 p := by
  intro m
  induction m with
  | zero => intro c w s h p hp; rw [h.2.1]
  | succ m ih =>
    intro c w s h p hp
    obtain ⟨b, hb, h⟩ := h
    rcases h with ⟨-, -, -, e⟩ | ⟨-, -, h⟩ | ⟨-, -, -, -, e⟩ | ⟨-, hf, -, h⟩ | ⟨-, -, h⟩
    · rw [e]
    · exact ih _ _ _ h p hp
    · rw [e]
    · have := hf.1
      rw [ih _ _ _ h p hp]
      exact fu_n (by omega) ..
    · exact ih _ _ _ h p hp
section
variable {c c' : CH} {v v' : VT} {cur t : Nat} {q : QT} {bd : Nat → Int32} {w w' : Nat → Bool} {s s' : Nat → Int64} {I I' : am_MI} {J J' : am_MJ}
def bV (c : CH) (v : VT) (cur t : Nat) (q : QT) (bd : Nat → Int32) (w : Nat → Bool) (s : Nat → Int64) (I : am_MI) (J : am_MJ) : Prop :=
  bS c v cur t (0, qn q, qp q, qw q, qb q, s) bd I J ∧ (∀ k, k < qn q → I 18 k = nI (qp q k) ∧ I 19 k = qw q k ∧ J 20 k = qb q k) ∧ ∀ k, k < qn q → I 21 k = bI (w k)
theorem bV.go (h : bV c v cur t q bd w s I J) (hc : rcC c' I' J') (g : fB I J I' J') : bV c' v cur t q bd w s I' J' := by
  obtain ⟨h1, h2, h3⟩ := h
  refine ⟨h1.go hc g, fun k hk => ?_, fun k hk => ?_⟩
  · rw [g.1 18 (by omega) (by omega), g.1 19 (by omega) (by omega), g.2.2.2 20 (by omega) (by omega)]; exact h2 k hk
  · rw [g.1 21 (by omega) (by omega)]; exact h3 k hk
theorem bV.take (h : bV c v cur t q bd w s I J) (b : Nat) : bV c v cur t q bd (fu w b false) s (am_ui I 21 b 0) J := by
  obtain ⟨h1, h2, h3⟩ := h
  have k1 : ∀ k, k ≠ 21 → am_ui I 21 b 0 k = I k := fun k hk => pu_k hk ..
  refine ⟨h1.vw (h1.2.1.mv (fun k _ _ => k1 k (by omega)) (fun _ _ _ => rfl)) (k1 0 (by omega)) (k1 1 (by omega)) (k1 3 (by omega)) (k1 17 (by omega)) (k1 18 (by omega)) (k1 19 (by omega)) rfl rfl rfl rfl, fun k hk => ?_, fun k hk => ?_⟩
  · rw [k1 18 (by omega), k1 19 (by omega)]; exact h2 k hk
  · by_cases e : k = b
    · rw [e, pu_s, fu_s]; rfl
    · rw [pu_f e, fu_n e]; exact h3 k hk
theorem bV.ans (h : bV c v cur t q bd w s I J) (b : Nat) (x : Int64) : bV c v cur t q bd w (fu s b x) I (am_uj J 22 b x) := by
  obtain ⟨⟨a1, a2, ⟨q1, q2, q3, q4⟩, a4, a5, a6, a7, a8⟩, h2, h3⟩ := h
  have k1 : ∀ k, k ≠ 22 → am_uj J 22 b x k = J k := fun k hk => pj_k hk ..
  refine ⟨⟨a1.mv rfl (by rw [k1 1 (by omega)]) rfl (k1 2 (by omega)), a2.mv (fun _ _ _ => rfl) (fun k _ _ => k1 k (by omega)), ⟨q1, q2, fun k hk => absurd hk (by show ¬ k < 0; omega), fun k hk => ?_⟩, a4, a5, a6, a7, a8⟩, fun k hk => ?_, h3⟩
  · show am_uj J 22 b x 22 k = fu s b x k
    by_cases e : k = b
    · rw [e, pj_s, fu_s]
    · rw [pj_f e, fu_n e]; exact q4 k hk
  · rw [k1 20 (by omega)]; exact h2 k hk
theorem s_R_takeNearest {Q : Int32 → am_MI → am_MJ → Prop} {X : String → am_MI → am_MJ → Prop} (hq : qOK q) (h : bV c v cur t q bd w s I J) (hw : ∃ k, k < qn q ∧ w k = true)
    (hQ : ∀ b, isB c q w b → Q (nI b) (am_ui I 21 b 0) J) : w_R_takeNearest I J Q X := by
  unfold w_R_takeNearest w_R_takeNearest_8
  intro P hP
  have hn := hq.1
  obtain ⟨h1, h2, h3⟩ := h
  have e6 : I 17 6 = nI (qn q) := h1.2.2.1.2.1
  have key : ∀ m j (x2 x3 : Int32), j + m = qn q → ((x2 = -1 ∧ x3 = 101 ∧ ∀ k, k < j → w k = false) ∨ ∃ b, x2 = nI b ∧ x3 = nI (pd c.1 (qp q b)) ∧ isP c q w j b) → P x2 x3 (nI j) I J := by
    intro m
    induction m with
    | zero =>
      intro j x2 x3 hj hx
      obtain rfl : j = qn q := by omega
      refine hP _ _ _ _ _ ?_
      rw [e6]
      refine br_t (nI_le (Nat.le_refl _) (by omega)) ?_
      rcases hx with ⟨rfl, -, hx⟩ | ⟨b, rfl, -, hx⟩
      · obtain ⟨k, k1, k2⟩ := hw
        rw [hx k k1] at k2; exact absurd k2 (by decide)
      · have hb := hx.1
        refine ⟨fun z => absurd z (nI_neg1 (by omega)), fun _ => ⟨vp_in_nI (by omega) (by omega), ?_⟩⟩
        rw [nI_clamp (by omega)]
        exact hQ b hx
    | succ m ih =>
      intro j x2 x3 hj hx
      refine hP _ _ _ _ _ ?_
      have hp := (hq.2.2 j (by omega)).1
      rw [e6, nI_clamp (by omega), (h2 j (by omega)).1, nI_1]
      refine br_f (nI_ge (by omega) (by omega)) ⟨vp_in_nI (by omega) (by omega), s_C_stepsTo h1.1.2.1 h1.1.1 hp ⟨vp_in_nI (by omega) (by omega), ?_⟩⟩
      rw [h3 j (by omega), bI0]
      have hd := pd_lt h1.1.1 hp
      refine ⟨fun e => ih (j + 1) x2 x3 (by omega) ?_, fun e => ?_⟩
      · rcases hx with ⟨e1, e2, hx⟩ | ⟨b, e1, e2, hx⟩
        · refine Or.inl ⟨e1, e2, fun k hk => ?_⟩
          by_cases ek : k = j
          · rw [ek]; exact e
          · exact hx k (by omega)
        · exact Or.inr ⟨b, e1, e2, hx.keep (fun z => by rw [e] at z; exact absurd z (by decide))⟩
      · have e : w j = true := by
          cases hh : w j
          · exact absurd hh e
          · rfl
        rcases hx with ⟨rfl, rfl, hx⟩ | ⟨b, rfl, rfl, hx⟩
        · exact ⟨fun z => absurd z (nI_ge (b := 101) hd (by omega)), fun _ => ih (j + 1) _ _ (by omega) (Or.inr ⟨j, rfl, rfl, isP.first hx e⟩)⟩
        · have hb := hx.1
          have hpb := pd_lt h1.1.1 (hq.2.2 b (by omega)).1
          rw [nI_leI (by omega) (by omega)]
          exact ⟨fun z => ih (j + 1) _ _ (by omega) (Or.inr ⟨b, rfl, rfl, hx.keep (fun _ => z)⟩), fun z => ih (j + 1) _ _ (by omega) (Or.inr ⟨j, rfl, rfl, hx.new e (by omega)⟩)⟩
  exact key (qn q) 0 (-1) 101 (by omega) (Or.inl ⟨rfl, rfl, fun k hk => absurd hk (by omega)⟩)
theorem wrm {w : Nat → Bool} {n b m : Nat} (hb : b < n) (hw : w b = true) (h : cnt (fun k => w k = true) n = m + 1) : cnt (fun k => fu w b false k = true) n = m := by
  have := cnt_rm (P := fun k => w k = true) (R := fun k => fu w b false k = true) n hb hw (by rw [fu_s]; decide) (fun k hk => by rw [fu_n hk])
  omega
/-- the class's serving -/
theorem s_B_serve_21 {Q : Int32 → am_MI → am_MJ → Prop} {X : String → am_MI → am_MJ → Prop} {x1 : Int64} (hq : qOK q) (h : bV c v cur t q bd w s I J) (hw : cnt (fun k => w k = true) (qn q) = qn q)
    (hQ : ∀ c' s', SR v q (qn q) c w s true c' s' → ∀ I' J', bS c' v cur t (0, qn q, qp q, qw q, qb q, s') bd I' J' → kM I J I' J' → Q ((c'.2.1 - x1).toInt32) I' J')
    (hX : ∀ c' s', SR v q (qn q) c w s false c' s' → ∀ I' J', bO c' bd I' J' → kM I J I' J' → X "java/lang/IllegalStateException" I' J') : w_B_serve_21 x1 0 I J Q X := by
  unfold w_B_serve_21
  intro P hP
  have hn := hq.1
  have key : ∀ m k c1 w1 s1 I1 J1, k + m = qn q → cnt (fun k => w1 k = true) (qn q) = m → bV c1 v cur t q bd w1 s1 I1 J1 → kM I J I1 J1 → (∀ o c' s', SR v q m c1 w1 s1 o c' s' → SR v q (qn q) c w s o c' s') → P (nI k) I1 J1 := by
    intro m
    induction m with
    | zero =>
      intro k c1 w1 s1 I1 J1 hk hc hb hkm hs
      refine hP _ _ _ ?_
      have e6 : I1 17 6 = nI (qn q) := hb.1.2.2.1.2.1
      rw [e6, hb.1.1.2.2.1]
      exact br_t (nI_le (by omega) (by omega)) (hQ c1 s1 (hs true c1 s1 ⟨rfl, rfl, rfl⟩) I1 J1 hb.1 hkm)
    | succ m ih =>
      intro k c1 w1 s1 I1 J1 hk hc hb hkm hs
      refine hP _ _ _ ?_
      have e6 : I1 17 6 = nI (qn q) := hb.1.2.2.1.2.1
      rw [e6, nI_1]
      refine br_f (nI_ge (by omega) (by omega)) (s_R_takeNearest hq hb (cnt_ex (by omega)) (fun b hB => ⟨fun z => absurd z (nI_neg1 (by have := hB.1; omega)), fun _ => ?_⟩))
      have hbn := hB.1
      have hpb := (hq.2.2 b hbn).1
      have hb1 := hb.take b
      have hcw := wrm hbn hB.2.1 hc
      have hkm1 := hkm.ui (k := 21) (by omega) b 0
      have hin : vp_in (nI b) 16 := vp_in_nI (by omega) (by omega)
      unfold w_B_transferAsked
      rw [nI_clamp (by omega), (hb1.2.1 b hbn).1, (hb1.2.1 b hbn).2.1]
      refine ⟨hin, hin, fun e => ?_, fun e => ?_⟩
      · refine s_D_isFree hb1.1.2.1 hpb (fun hf => ⟨fun z => absurd z (by decide), fun _ => ⟨hin, ?_⟩⟩) (fun hf => ⟨fun _ => ?_, fun z => absurd rfl z⟩)
        · rw [(hb1.2.1 b hbn).2.2]
          refine s_B_writePage hb1.1.1 hpb (fun h0 => hX c1 s1 (hs _ _ _ ⟨b, hB, Or.inr (Or.inr (Or.inl ⟨e, hf, h0, rfl, rfl⟩))⟩) _ _ hb1.1.off (hkm1.ui (by omega) _ _)) (fun h0 I2 J2 g1 g2 => ?_)
          exact ih (k + 1) _ _ _ _ _ (by omega) hcw (hb1.go g1 g2) (hkm1.tr g2.kM) (fun o c' s' z => hs o c' s' ⟨b, hB, Or.inr (Or.inr (Or.inr (Or.inl ⟨e, hf, h0, z⟩)))⟩)
        · exact ih (k + 1) _ _ _ _ _ (by omega) hcw hb1 hkm1 (fun o c' s' z => hs o c' s' ⟨b, hB, Or.inr (Or.inr (Or.inr (Or.inr ⟨e, hf, z⟩)))⟩)
      · refine s_B_readPage hb1.1.1 hpb (fun h0 => hX c1 s1 (hs _ _ _ ⟨b, hB, Or.inl ⟨e, h0, rfl, rfl⟩⟩) _ _ hb1.1.off (hkm1.ui (by omega) _ _)) (fun h0 I2 J2 g1 g2 g3 => ⟨hin, ?_⟩)
        exact ih (k + 1) _ _ _ _ _ (by omega) hcw ((hb1.go g1 g2).ans b _) ((hkm1.tr g2.kM).uj (by omega) _ _) (fun o c' s' z => hs o c' s' ⟨b, hB, Or.inr (Or.inl ⟨e, h0, z⟩)⟩)
  exact key (qn q) 0 c w s I J (by omega) hw h kM.rf (fun _ _ _ z => z)
/-- the requests become the ones to serve -/
theorem s_R_begin {Q : am_MI → am_MJ → Prop} {X : String → am_MI → am_MJ → Prop} (hq : qOK q) (h : bS c v cur t q bd I J)
    (hQ : ∀ I' J', bV c v cur t q bd (fun _ => true) (fun _ => 0) I' J' → kM I J I' J' → Q I' J') : w_R_begin I J Q X := by
  unfold w_R_begin w_R_begin_2
  intro P hP
  have hn := hq.1
  have key : ∀ m j I1 J1, j + m = qn q → (∀ k, k ≠ 21 → I1 k = I k) → (∀ k, k ≠ 22 → J1 k = J k) → (∀ k, k < j → I1 21 k = 1 ∧ J1 22 k = 0) → P (nI j) I1 J1 := by
    intro m
    induction m with
    | zero =>
      intro j I1 J1 hj k1 k2 k3
      obtain rfl : j = qn q := by omega
      refine hP _ _ _ ?_
      have e5 : I1 17 5 = nI (qn q) := by rw [k1 17 (by omega)]; exact h.2.2.1.1
      rw [e5]
      refine br_t (nI_le (Nat.le_refl _) (by omega)) (hQ _ _ ?_ ⟨fun k hk => ?_, fun k hk => k2 k (by omega)⟩)
      · obtain ⟨a1, a2, ⟨q1, q2, q3, q4⟩, a4, a5, a6, a7, a8⟩ := h
        have g1 : ∀ k, k ≠ 21 → k ≠ 17 → am_ui (am_ui I1 17 6 (nI (qn q))) 17 5 0 k = I k := fun k a b => by rw [pu_k b, pu_k b]; exact k1 k a
        refine ⟨⟨a1.mv (by rw [g1 1 (by omega) (by omega)]) (by rw [k2 1 (by omega)]) (by rw [g1 0 (by omega) (by omega)]) (k2 2 (by omega)), a2.mv (fun k _ _ => g1 k (by omega) (by omega)) (fun k _ _ => k2 k (by omega)), ⟨pu_s .., by rw [pu_f (by decide), pu_s], fun k hk => absurd hk (by show ¬ k < 0; omega), fun k hk => (k3 k hk).2⟩, by rw [g1 0 (by omega) (by omega)]; exact a4, by rw [g1 0 (by omega) (by omega)]; exact a5, by rw [g1 0 (by omega) (by omega)]; exact a6, by rw [g1 1 (by omega) (by omega)]; exact a7, fun k hk => by rw [g1 3 (by omega) (by omega)]; exact a8 k hk⟩, fun k hk => ?_, fun k hk => ?_⟩
        · rw [g1 18 (by omega) (by omega), g1 19 (by omega) (by omega), k2 20 (by omega)]; exact q3 k hk
        · rw [pu_k (by omega), pu_k (by omega), (k3 k hk).1]; rfl
      · rw [pu_k (by omega), pu_k (by omega)]; exact k1 k (by omega)
    | succ m ih =>
      intro j I1 J1 hj k1 k2 k3
      refine hP _ _ _ ?_
      have e5 : I1 17 5 = nI (qn q) := by rw [k1 17 (by omega)]; exact h.2.2.1.1
      rw [e5, nI_clamp (by omega), nI_1]
      have hin : vp_in (nI j) 16 := vp_in_nI (by omega) (by omega)
      refine br_f (nI_ge (by omega) (by omega)) ⟨hin, hin, ih (j + 1) _ _ (by omega) (fun k a => by rw [pu_k a]; exact k1 k a) (fun k a => by rw [pj_k a]; exact k2 k a) (fun k hk => ?_)⟩
      by_cases e : k = j
      · rw [e, pu_s, pj_s]; exact ⟨rfl, rfl⟩
      · rw [pu_f e, pj_f e]; exact k3 k (by omega)
  exact key (qn q) 0 I J (by omega) (fun _ _ => rfl) (fun _ _ => rfl) (fun k hk => absurd hk (by omega))
end
end PU13
