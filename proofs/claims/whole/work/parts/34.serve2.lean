section PU14
section
variable {c c' : CH} {v v' : VT} {cur t : Nat} {q : QT} {bd : Nat → Int32} {w w' : Nat → Bool} {s s' : Nat → Int64} {I I' : am_MI} {J J' : am_MJ} {o o' : Int32}
def mV (o : Int32) (c : CH) (v : VT) (cur t : Nat) (q : QT) (bd : Nat → Int32) (w : Nat → Bool) (s : Nat → Int64) (I : am_MI) (J : am_MJ) : Prop :=
  rmC c I J ∧ rmV v I J ∧ (I 28 20 = nI (qn q) ∧ ∀ k, k < qn q → I 40 k = nI (qp q k) ∧ I 41 k = qw q k ∧ J 42 k = qb q k) ∧ I 28 15 = nI cur ∧ I 28 16 = nI t ∧ I 28 7 = o ∧ I 28 8 = 1 ∧ I 28 2 = 1 ∧ (∀ k, k < 69 → I 29 k = bd k) ∧
  (∀ k, k < qn q → I 43 k = bI (!w k)) ∧ (o = 1 → ∀ k, k < qn q → w k = false → J 44 k = s k)
theorem mV.mv (h : mV o c v cur t q bd w s I J) (hC : rmC c' I' J') (h28 : ∀ f, f ≠ 0 → f ≠ 4 → f ≠ 6 → f ≠ 7 → I' 28 f = I 28 f) (h7 : I' 28 7 = o') (hk : ∀ k, 29 ≤ k → k ≠ 43 → I' k = I k) (hj : ∀ k, 29 ≤ k → k ≠ 30 → k ≠ 44 → J' k = J k) (h43 : ∀ k, k < qn q → I' 43 k = bI (!w' k)) (h44 : o' = 1 → ∀ k, k < qn q → w' k = false → J' 44 k = s' k) : mV o' c' v cur t q bd w' s' I' J' := by
  obtain ⟨a1, a2, a3, a4, a5, a6, a7, a8, a9, a10, a11⟩ := h
  refine ⟨hC, a2.mv (fun k _ _ => hk k (by omega) (by omega)) (fun k _ _ => hj k (by omega) (by omega) (by omega)), ⟨(h28 20 (by decide) (by decide) (by decide) (by decide)).trans a3.1, fun k hk' => ?_⟩, (h28 15 (by decide) (by decide) (by decide) (by decide)).trans a4, (h28 16 (by decide) (by decide) (by decide) (by decide)).trans a5, h7, (h28 8 (by decide) (by decide) (by decide) (by decide)).trans a7, (h28 2 (by decide) (by decide) (by decide) (by decide)).trans a8, fun k hk' => ?_, h43, h44⟩
  · rw [hk 40 (by omega) (by omega), hk 41 (by omega) (by omega), hj 42 (by omega) (by omega) (by omega)]; exact a3.2 k hk'
  · rw [hk 29 (by omega) (by omega)]; exact a9 k hk'
theorem mV.take (h : mV o c v cur t q bd w s I J) {b : Nat} (hs : s b = 0) : mV o c v cur t q bd (fu w b false) s (am_ui I 43 b 1) (am_uj J 44 b 0) := by
  refine h.mv (h.1.mv (by rw [pu_k (by omega)]) (by rw [pj_k (by omega)]) (by rw [pu_k (by omega)]) (pj_k (by omega) ..)) (fun f _ _ _ _ => by rw [pu_k (by omega)]) (by rw [pu_k (by omega)]; exact h.2.2.2.2.2.1) (fun k _ hk => pu_k hk ..) (fun k _ _ hk => pj_k hk ..) (fun k hk => ?_) (fun ho k hk hw => ?_)
  · by_cases e : k = b
    · rw [e, pu_s, fu_s]; rfl
    · rw [pu_f e, fu_n e]; exact h.2.2.2.2.2.2.2.2.2.1 k hk
  · by_cases e : k = b
    · rw [e, pj_s, hs]
    · rw [fu_n e] at hw
      rw [pj_f e]; exact h.2.2.2.2.2.2.2.2.2.2 ho k hk hw
theorem mV.go (h : mV 1 c v cur t q bd w s I J) (hc : rmC c' I' J') (h7 : I' 28 7 = 1) (g : fM I J I' J') : mV 1 c' v cur t q bd w s I' J' := by
  refine h.mv hc (fun f _ a b d => g.2.1 f a b d) h7 (fun k a _ => g.1 k (by omega)) (fun k a b _ => g.2.2 k (by omega) b) (fun k hk => by rw [g.1 43 (by omega)]; exact h.2.2.2.2.2.2.2.2.2.1 k hk) (fun ho k hk hw => by rw [g.2.2 44 (by omega) (by omega)]; exact h.2.2.2.2.2.2.2.2.2.2 ho k hk hw)
theorem mV.off (h : mV 1 c v cur t q bd w s I J) : mV 0 c v cur t q bd w s (am_ui I 28 7 0) J := by
  refine h.mv (h.1.mv (pu_f (by decide) ..) rfl (pu_f (by decide) ..) rfl) (fun f _ _ _ a => pu_f a ..) (pu_s ..) (fun k a _ => pu_k (by omega) ..) (fun _ _ _ _ => rfl) (fun k hk => by rw [pu_k (by omega)]; exact h.2.2.2.2.2.2.2.2.2.1 k hk) (fun ho => absurd ho (by decide))
theorem mV.ans (h : mV o c v cur t q bd w s I J) (b : Nat) (x : Int64) : mV o c v cur t q bd w (fu s b x) I (am_uj J 44 b x) := by
  refine h.mv (h.1.mv rfl (by rw [pj_k (by omega)]) rfl (pj_k (by omega) ..)) (fun f _ _ _ _ => rfl) h.2.2.2.2.2.1 (fun _ _ _ => rfl) (fun k _ _ hk => pj_k hk ..) h.2.2.2.2.2.2.2.2.2.1 (fun ho k hk hw => ?_)
  by_cases e : k = b
  · rw [e, pj_s, fu_s]
  · rw [pj_f e, fu_n e]; exact h.2.2.2.2.2.2.2.2.2.2 ho k hk hw
/-- off: the answers matter no more -/
theorem mV.any (h : mV 0 c v cur t q bd w s I J) (s' : Nat → Int64) : mV 0 c v cur t q bd w s' I J := by
  obtain ⟨a1, a2, a3, a4, a5, a6, a7, a8, a9, a10, a11⟩ := h
  exact ⟨a1, a2, a3, a4, a5, a6, a7, a8, a9, a10, fun ho => absurd ho (by decide)⟩
/-- the search for the nearest, up to the transfer -/
theorem s_M_serve_67 {Q : Int32 → am_MI → am_MJ → Prop} {X : String → am_MI → am_MJ → Prop} {P32 P53 : Int32 → am_MI → am_MJ → Prop} {x1 : Int64} {x3 : Int32} (hv : vOK v) (hq : qOK q) (h : mV o c v cur t q bd w s I J) (hw : ∃ k, k < qn q ∧ w k = true) (hs : ∀ k, k < qn q → w k = true → s k = 0)
    (hW : ∀ b, isB c q w b → ∀ I' J', mV o c v cur t q bd (fu w b false) s I' J' → kB I J I' J' → I' 28 0 = I 28 0 → ¬ qw q b = 0 → fre v (qp q b) → w_M_write (nI (qp q b)) (qb q b) I' J' (fun I J => P53 (x3 + 1) I J) X)
    (hN : ∀ b, isB c q w b → ∀ I' J', mV o c v cur t q bd (fu w b false) s I' J' → kB I J I' J' → I' 28 0 = I 28 0 → ¬ qw q b = 0 → ¬ fre v (qp q b) → P53 (x3 + 1) I' J')
    (hR : ∀ b, isB c q w b → ∀ I' J', mV o c v cur t q bd (fu w b false) s I' J' → kB I J I' J' → I' 28 0 = I 28 0 → qw q b = 0 → w_M_read (nI (qp q b)) I' J' (fun r I J => vp_in (nI b) 16 ∧ P53 (x3 + 1) I (am_uj J 44 b r)) X) : w_M_serve_67 x1 x3 (-1) 0 I J Q X P32 P53 := by
  unfold w_M_serve_67
  intro P hP
  have hn := hq.1
  have h20 : I 28 20 = nI (qn q) := h.2.2.1.1
  have h43 := h.2.2.2.2.2.2.2.2.2.1
  have har := h.2.2.1.2
  have key : ∀ m j (x4 : Int32), j + m = qn q → ((x4 = -1 ∧ ∀ k, k < j → w k = false) ∨ ∃ b, x4 = nI b ∧ isP c q w j b) → P x4 (nI j) I J := by
    intro m
    induction m with
    | zero =>
      intro j x4 hj hx
      obtain rfl : j = qn q := by omega
      refine hP _ _ _ _ ?_
      rw [h20]
      refine br_t (nI_le (Nat.le_refl _) (by omega)) ?_
      rcases hx with ⟨rfl, hx⟩ | ⟨b, rfl, hx⟩
      · obtain ⟨k, k1, k2⟩ := hw
        rw [hx k k1] at k2; exact absurd k2 (by decide)
      · have hb := hx.1
        have hin : vp_in (nI b) 16 := vp_in_nI (by omega) (by omega)
        rw [nI_clamp (by omega)]
        have hm1 := h.take (b := b) (hs b hb hx.2.1)
        have hpb := (hq.2.2 b hb).1
        have kb : kB I J (am_ui I 43 b 1) (am_uj J 44 b 0) := (kB.rf.ui (by omega) _ _).uj (by omega) (by omega) _ _
        have e0 : am_ui I 43 b 1 28 0 = I 28 0 := by rw [pu_k (by omega)]
        show vp_in (nI b) 16 ∧ vp_in (nI b) 16 ∧ vp_in (nI b) 16 ∧ _
        rw [show vp_nar .boolean 1 = (1 : Int32) from rfl]
        obtain ⟨r1, r2, r3⟩ := hm1.2.2.1.2 b hb
        rw [r1, r2]
        refine ⟨hin, hin, hin, fun e => ⟨hin, s_M_isFree hv hm1.2.1 hpb (fun hf => ⟨fun z => absurd z (by decide), fun _ => ⟨hin, hin, ?_⟩⟩) (fun hf => ⟨fun _ => hN b hx _ _ hm1 kb e0 e hf, fun z => absurd rfl z⟩)⟩, fun e => ⟨hin, hR b hx _ _ hm1 kb e0 e⟩⟩
        rw [r1, r3]
        exact hW b hx _ _ hm1 kb e0 e hf
    | succ m ih =>
      intro j x4 hj hx
      refine hP _ _ _ _ ?_
      have hp := (hq.2.2 j (by omega)).1
      have hin : vp_in (nI j) 16 := vp_in_nI (by omega) (by omega)
      rw [h20, nI_clamp (by omega), (har j (by omega)).1, nI_1, h43 j (by omega), bI0]
      refine br_f (nI_ge (by omega) (by omega)) ⟨hin, fun e => ih (j + 1) x4 (by omega) ?_, fun e => ?_⟩
      · have e : w j = false := by
          cases hh : w j
          · rfl
          · rw [hh] at e; exact absurd rfl e
        rcases hx with ⟨e1, hx⟩ | ⟨b, e1, hx⟩
        · refine Or.inl ⟨e1, fun k hk => ?_⟩
          by_cases ek : k = j
          · rw [ek]; exact e
          · exact hx k (by omega)
        · exact Or.inr ⟨b, e1, hx.keep (fun z => by rw [e] at z; exact absurd z (by decide))⟩
      · have e : w j = true := by
          cases hh : w j
          · rw [hh] at e; exact absurd e (by decide)
          · rfl
        rcases hx with ⟨rfl, hx⟩ | ⟨b, rfl, hx⟩
        · exact ⟨fun _ => ih (j + 1) _ (by omega) (Or.inr ⟨j, rfl, isP.first hx e⟩), fun z => absurd (by decide) z⟩
        · have hb := hx.1
          have hpb := (hq.2.2 b (by omega)).1
          have d1 := pd_lt h.1.1 hp
          have d2 := pd_lt h.1.1 hpb
          refine ⟨fun z => absurd z (nI_pos (by omega)), fun _ => ⟨hin, s_M_stepsTo h.1.2.1 h.1.1 hp ⟨vp_in_nI (by omega) (by omega), ?_⟩⟩⟩
          rw [nI_clamp (by omega), (har b (by omega)).1]
          refine s_M_stepsTo h.1.2.1 h.1.1 hpb ?_
          rw [nI_leI (by omega) (by omega)]
          exact ⟨fun z => ih (j + 1) _ (by omega) (Or.inr ⟨b, rfl, hx.keep (fun _ => z)⟩), fun z => ih (j + 1) _ (by omega) (Or.inr ⟨j, rfl, hx.new e (by omega)⟩)⟩
  exact key (qn q) 0 (-1) (by omega) (Or.inl ⟨rfl, fun k hk => absurd hk (by omega)⟩)
/-- the reference's serving -/
theorem s_M_serve_53 {Q : Int32 → am_MI → am_MJ → Prop} {X : String → am_MI → am_MJ → Prop} {P32 : Int32 → am_MI → am_MJ → Prop} {x1 : Int64} {ob : Bool} (hv : vOK v) (hq : qOK q) (h : mV 1 c v cur t q bd w s I J) (hc0 : cnt (fun k => w k = true) (qn q) = qn q) (hs0 : ∀ k, k < qn q → w k = true → s k = 0) (hr : SR v q (qn q) c w s ob c' s')
    (hQ : ob = true → ∀ I' J', mS c' v cur t (0, qn q, qp q, qw q, qb q, s') bd I' J' → I' 28 0 = 0 → kB I J I' J' → Q ((c'.2.1 - x1).toInt32) I' J')
    (hX : ob = false → ∀ I' J', mO c' bd I' J' → I' 28 0 = 1 → kB I J I' J' → Q 0 I' J') : w_M_serve_53 x1 0 I J Q X P32 := by
  unfold w_M_serve_53
  intro P hP
  have hn := hq.1
  -- switched off: to the end without a transfer
  have offK : ∀ m k w1 s1 I1 J1, k + m = qn q → cnt (fun k => w1 k = true) (qn q) = m → mV 0 c' v cur t q bd w1 s1 I1 J1 → kB I J I1 J1 → ob = false → P (nI k) I1 J1 := by
    intro m
    induction m with
    | zero =>
      intro k w1 s1 I1 J1 hk hc hm hkb ho
      refine hP _ _ _ ?_
      rw [hm.2.2.1.1, hm.2.2.2.2.2.1]
      refine br_t (nI_le (by omega) (by omega)) ⟨fun _ => ?_, fun z => absurd rfl z⟩
      unfold w_M_serve_229
      rw [pu_s]
      refine ⟨fun z => absurd z (by decide), fun _ => hX ho _ _ ?_ (pu_s ..) (hkb.ui (by omega) _ _)⟩
      have : mO c' bd I1 J1 := ⟨hm.1, hm.2.2.2.2.2.1, hm.2.2.2.2.2.2.2.1, hm.2.2.2.2.2.2.2.2.1⟩
      exact this.u28 (by decide) _
    | succ m ih =>
      intro k w1 s1 I1 J1 hk hc hm hkb ho
      refine hP _ _ _ ?_
      rw [hm.2.2.1.1]
      have hm := hm.any (fun _ => 0)
      refine br_f (nI_ge (by omega) (by omega)) (s_M_serve_67 hv hq hm (cnt_ex (by omega)) (fun _ _ _ => rfl) (fun b hB I2 J2 g1 g2 _ _ _ => s_M_writeOff g1.2.2.2.2.2.1 ?_) (fun b hB I2 J2 g1 g2 _ _ _ => ?_) (fun b hB I2 J2 g1 g2 _ _ => s_M_readOff g1.2.2.2.2.2.1 ⟨vp_in_nI (by have := hB.1; omega) (by omega), ?_⟩))
      · rw [nI_1]; exact ih (k + 1) _ _ _ _ (by omega) (wrm hB.1 hB.2.1 hc) g1 (hkb.tr g2) ho
      · rw [nI_1]; exact ih (k + 1) _ _ _ _ (by omega) (wrm hB.1 hB.2.1 hc) g1 (hkb.tr g2) ho
      · rw [nI_1]; exact ih (k + 1) _ _ _ _ (by omega) (wrm hB.1 hB.2.1 hc) (g1.ans b 0) ((hkb.tr g2).uj (by omega) (by omega) _ _) ho
  have key : ∀ m k c1 w1 s1 I1 J1, k + m = qn q → cnt (fun k => w1 k = true) (qn q) = m → (∀ k, k < qn q → w1 k = true → s1 k = 0) → mV 1 c1 v cur t q bd w1 s1 I1 J1 → kB I J I1 J1 → SR v q m c1 w1 s1 ob c' s' → P (nI k) I1 J1 := by
    intro m
    induction m with
    | zero =>
      intro k c1 w1 s1 I1 J1 hk hc hs hm hkb hr
      obtain ⟨ho, rfl, rfl⟩ := hr
      refine hP _ _ _ ?_
      rw [hm.2.2.1.1, hm.2.2.2.2.2.1]
      refine br_t (nI_le (by omega) (by omega)) ⟨fun z => absurd z (by decide), fun _ => ?_⟩
      unfold w_M_serve_229
      rw [pu_s]
      refine ⟨fun _ => ?_, fun z => absurd (by decide) z⟩
      rw [hm.1.2.2.1, pu_f (by decide), hm.2.2.1.1]
      have hall : ∀ k, k < qn q → w1 k = false := fun k hk => by
        cases hh : w1 k
        · rfl
        · have : cnt (fun k => w1 k = true) (qn q) ≠ 0 := fun z => by
            have h2 := cnt_rm (P := fun k => w1 k = true) (R := fun j => fu w1 k false j = true) (b := k) (qn q) hk hh (by rw [fu_s]; decide) (fun j hj => by rw [fu_n hj])
            omega
          exact absurd hc this
      obtain ⟨a1, a2, a3, a4, a5, a6, a7, a8, a9, a10, a11⟩ := hm
      generalize hE : am_ui (am_ui (am_ui I1 28 0 0) 28 25 (nI (qn q))) 28 20 0 = E
      have k1 : ∀ k, k ≠ 28 → E k = I1 k := fun k hk => by rw [← hE, pu_k hk, pu_k hk, pu_k hk]
      have k28 : ∀ f, f ≠ 0 → f ≠ 25 → f ≠ 20 → E 28 f = I1 28 f := fun f a b d => by rw [← hE, pu_f d, pu_f b, pu_f a]
      refine hQ ho E J1 ⟨a1.mv (k28 4 (by decide) (by decide) (by decide)) rfl (k28 6 (by decide) (by decide) (by decide)) rfl, a2.mv (fun k _ _ => k1 k (by omega)) (fun _ _ _ => rfl), ⟨?_, ?_, fun k hk => absurd hk (by show ¬ k < 0; omega), fun k hk => a11 rfl k hk (hall k hk)⟩, (k28 15 (by decide) (by decide) (by decide)).trans a4, (k28 16 (by decide) (by decide) (by decide)).trans a5, (k28 7 (by decide) (by decide) (by decide)).trans a6, (k28 8 (by decide) (by decide) (by decide)).trans a7, (k28 2 (by decide) (by decide) (by decide)).trans a8, fun k hk => by rw [k1 29 (by omega)]; exact a9 k hk⟩ ?_ ⟨fun k hk => by rw [k1 k (by omega)]; exact hkb.1 k hk, hkb.2⟩
      · rw [← hE, pu_s]; rfl
      · rw [← hE, pu_f (by decide), pu_s]
      · rw [← hE, pu_f (by decide), pu_f (by decide), pu_s]
    | succ m ih =>
      intro k c1 w1 s1 I1 J1 hk hc hs hm hkb hr
      obtain ⟨b0, hB0, hr⟩ := hr
      refine hP _ _ _ ?_
      rw [hm.2.2.1.1]
      have hs2 : ∀ b, ∀ k, k < qn q → fu w1 b false k = true → s1 k = 0 := fun b k hk hw => by
        by_cases e : k = b
        · rw [e, fu_s] at hw; exact absurd hw (by decide)
        · rw [fu_n e] at hw; exact hs k hk hw
      refine br_f (nI_ge (by omega) (by omega)) (s_M_serve_67 hv hq hm (cnt_ex (by omega)) hs (fun b hB I2 J2 g1 g2 _ e hf => ?_) (fun b hB I2 J2 g1 g2 _ e hf => ?_) (fun b hB I2 J2 g1 g2 _ e => ?_))
      · obtain rfl := hB.un hB0
        have hpb := (hq.2.2 b hB.1).1
        rw [nI_1]
        rcases hr with ⟨e', -⟩ | ⟨e', -⟩ | ⟨-, -, h0, ho, rfl⟩ | ⟨-, -, h0, hr⟩ | ⟨-, hf', -⟩
        · exact absurd e' e
        · exact absurd e' e
        · exact s_M_write g1.1 g1.2.2.2.2.2.1 hpb (fun _ => offK m (k + 1) _ _ _ _ (by omega) (wrm hB.1 hB.2.1 hc) g1.off ((hkb.tr g2).ui (by omega) _ _) ho) (fun z => absurd h0 z)
        · exact s_M_write g1.1 g1.2.2.2.2.2.1 hpb (fun z => absurd z h0) (fun _ I3 J3 k1 k2 k3 => ih (k + 1) _ _ _ _ _ (by omega) (wrm hB.1 hB.2.1 hc) (hs2 b) (g1.go k1 k2 k3) ((hkb.tr g2).tr k3.kB) hr)
        · exact absurd hf hf'
      · obtain rfl := hB.un hB0
        rw [nI_1]
        rcases hr with ⟨e', -⟩ | ⟨e', -⟩ | ⟨-, hf', -⟩ | ⟨-, hf', -⟩ | ⟨-, -, hr⟩
        · exact absurd e' e
        · exact absurd e' e
        · exact absurd hf' hf
        · exact absurd hf' hf
        · exact ih (k + 1) _ _ _ _ _ (by omega) (wrm hB.1 hB.2.1 hc) (hs2 b) g1 (hkb.tr g2) hr
      · obtain rfl := hB.un hB0
        have hpb := (hq.2.2 b hB.1).1
        have hin : vp_in (nI b) 16 := vp_in_nI (by have := hB.1; omega) (by omega)
        rw [nI_1]
        rcases hr with ⟨-, h0, ho, rfl⟩ | ⟨-, h0, hr⟩ | ⟨e', -⟩ | ⟨e', -⟩ | ⟨e', -⟩
        · exact s_M_read g1.1 g1.2.2.2.2.2.1 hpb (fun _ => ⟨hin, offK m (k + 1) _ _ _ _ (by omega) (wrm hB.1 hB.2.1 hc) (g1.off.ans b 0) (((hkb.tr g2).ui (by omega) _ _).uj (by omega) (by omega) _ _) ho⟩) (fun z => absurd h0 z)
        · refine s_M_read g1.1 g1.2.2.2.2.2.1 hpb (fun z => absurd z h0) (fun _ I3 J3 k1 k2 k3 k4 => ⟨hin, ih (k + 1) _ _ _ _ _ (by omega) (wrm hB.1 hB.2.1 hc) (fun j hj hw => ?_) ((g1.go k1 k2 k3).ans b _) (((hkb.tr g2).tr k3.kB).uj (by omega) (by omega) _ _) hr⟩)
          by_cases ej : j = b
          · rw [ej, fu_s] at hw; exact absurd hw (by decide)
          · rw [fu_n ej]; exact hs2 b j hj hw
        · exact absurd e e'
        · exact absurd e e'
        · exact absurd e e'
  exact key (qn q) 0 c w s I J (by omega) hc0 hs0 h kB.rf hr
end
theorem op_serve {I : am_MI} {J : am_MJ} {K : Int32 → am_MI → am_MJ → Prop} (h : INV I J) (hK : ∀ k I1 J1, w_M_serve I1 J1 (fun r I2 J2 => FINi INV k r I2 J2) FF → K k I1 J1) : w_L_serve I J K FF := by
  unfold w_L_serve w_B_serve
  rcases h.split with ⟨h4, hm⟩ | ⟨h4, h7, h8⟩
  · refine s_B_need0 h4 ⟨rfl, hK _ _ _ ?_⟩
    unfold w_M_serve
    refine s_M_isReady0 hm ⟨fun _ => ?_, fun z => absurd rfl z⟩
    unfold w_M_serve_13
    rw [pu_s]
    exact ⟨fun z => absurd z (by decide), fun _ => fin_i (pu_s ..) (fun z => absurd z (by decide)) (h.code 1)⟩
  · obtain ⟨c, v, cur, t, q, bd, hv, hcur, ht, hq, hi, hb, hm⟩ := h.on h4
    have hn := hq.1
    have hall : cnt (fun k => (fun _ => true : Nat → Bool) k = true) (qn q) = qn q := cnt_all _ (fun _ _ => rfl)
    -- the reference, once the way of the serving is known
    have ref : ∀ (k : Int32) (ob : Bool) c' s' I1 J1, mS c v cur t q bd I1 J1 → SR v q (qn q) c (fun _ => true) (fun _ => 0) ob c' s' →
        (ob = true → ∀ I' J', mS c' v cur t (0, qn q, qp q, qw q, qb q, s') bd I' J' → I' 28 0 = 0 → kB I1 J1 I' J' → FINi INV k ((c'.2.1 - c.2.1).toInt32) I' J') →
        (ob = false → ∀ I' J', mO c' bd I' J' → I' 28 0 = 1 → kB I1 J1 I' J' → FINi INV k 0 I' J') → w_M_serve I1 J1 (fun r I2 J2 => FINi INV k r I2 J2) FF := fun k ob c' s' I1 J1 hm1 hr hon hoff => by
      unfold w_M_serve
      refine s_M_isReady1 hm1.2.2.2.2.2.1 hm1.2.2.2.2.2.2.1 ⟨fun z => absurd z (by decide), fun _ => ?_⟩
      unfold w_M_serve_13
      rw [pu_s, hm1.1.2.2.1]
      refine ⟨fun _ => ?_, fun z => absurd (by decide) z⟩
      unfold w_M_serve_32
      intro P hP
      have key : ∀ m j I2, j + m = 16 → (∀ k, k ≠ 43 → I2 k = am_ui I1 28 0 0 k) → (∀ k, k < j → I2 43 k = 0) → P (nI j) I2 J1 := by
        intro m
        induction m with
        | zero =>
          intro j I2 hj k1 k2
          obtain rfl : j = 16 := by omega
          refine hP _ _ _ (br_t (nI_le (a := 16) (by omega) (by omega)) ?_)
          have hm2 : mS c v cur t q bd I2 J1 := by
            refine (hm1.code 0).vw ((hm1.code 0).2.1.mv (fun k _ _ => k1 k (by omega)) (fun _ _ _ => rfl)) (k1 28 (by omega)) (k1 29 (by omega)) (k1 40 (by omega)) (k1 41 (by omega)) rfl rfl rfl rfl
          have kb : kB I1 J1 I2 J1 := ⟨fun k hk => by rw [k1 k (by omega), pu_k (by omega)], fun _ _ => rfl⟩
          obtain ⟨a1, a2, ⟨r1, r2, r3, r4⟩, a4, a5, a6, a7, a8, a9⟩ := hm2
          exact s_M_serve_53 (w := fun _ => true) (s := fun _ => 0) hv hq ⟨a1, a2, ⟨r1, r3⟩, a4, a5, a6, a7, a8, a9, fun k hk => k2 k (by omega), fun _ k _ z => absurd (show true = false from z) (by decide)⟩ hall (fun _ _ _ => rfl) hr (fun ho I' J' g1 g2 g3 => hon ho I' J' g1 g2 (kb.tr g3)) (fun ho I' J' g1 g2 g3 => hoff ho I' J' g1 g2 (kb.tr g3))
        | succ m ih =>
          intro j I2 hj k1 k2
          refine hP _ _ _ (br_f (nI_ge (b := 16) (by omega) (by omega)) ⟨vp_in_nI (by omega) (by omega), ?_⟩)
          rw [nI_clamp (by omega), nI_1]
          refine ih (j + 1) _ (by omega) (fun k hk => by rw [pu_k hk]; exact k1 k hk) (fun k hk => ?_)
          by_cases e : k = j
          · rw [e, pu_s]; rfl
          · rw [pu_f e]; exact k2 k (by omega)
      exact key 16 0 _ (by omega) (fun _ _ => rfl) (fun k hk => absurd hk (by omega))
    have hq0 : ∀ s', qOK (0, qn q, qp q, qw q, qb q, s') := fun s' => ⟨by show 0 ≤ 16; omega, hn, fun k hk => absurd hk (by show ¬ k < 0; omega)⟩
    refine s_B_need1 h4 (s_R_begin hq hb (fun I1 J1 h1 h2 => ?_))
    rw [hb.1.2.2.1]
    refine s_B_serve_21 hq h1 hall (fun c' s' hr I2 J2 g1 g2 => ⟨in01, hK _ _ _ ?_⟩) (fun c' s' hr I2 J2 g1 g2 => ⟨rfl, hK _ _ _ ?_⟩)
    · have hm2 := (hm.km (h2.tr g2)).out 0 ((c'.2.1 - c.2.1).toInt32).toInt64
      refine ref 0 true c' s' _ _ hm2 hr (fun _ I3 J3 k1 k2 k3 => fin_i k2 (fun _ => ?_) ?_) (fun z => absurd z (by decide))
      · rw [k3.2 45 (Or.inr rfl)]
        exact pj_s ..
      · exact INV.of_on hv hcur ht (hq0 s') (hi.mv hcur (SR_40 _ _ _ _ hr)) ((g1.out _ _).kb k3) k1
    · refine ref 1 false c' s' _ _ (hm.km (h2.tr g2)) hr (fun z => absurd z (by decide)) (fun _ I3 J3 k1 k2 k3 => fin_i k2 (fun z => absurd z (by decide)) ?_)
      exact INV.of_off ((hi.mv hcur (SR_40 _ _ _ _ hr)).OI hcur ht) (g1.kb k3) k1
theorem case17 {L0 : Nat} {xs : Nat → Int32} {x4 : Int32} {I : am_MI} {J : am_MJ} (h : INV I J) : w_case17 L0 xs x4 I J INV := op_serve h (fun _ _ _ hm => hm)
end PU14
