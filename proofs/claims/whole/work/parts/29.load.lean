section PU9
/-! windows: save and load; byteAt -/
def vSv (v : VT) (f : Nat) : VT := (vN v, vL v, vC v, vW v, vB v, fu (vG v) f false, vH v)
def aSv (c : CH) (v : VT) (f : Nat) : CH × VT := if vG v f = true then (ch_wr c (vW v f) (vB v f), vSv v f) else (c, v)
def oSv (c : CH) (v : VT) (f : Nat) : Prop := vG v f = true ∧ c.2.2.1 = 0
def vOp (v : VT) (f p : Nat) (b : Int64) : VT := (vN v, vL v, vC v, fu (vW v) f p, fu (vB v) f b, fu (vG v) f false, vH v)
def aLd (c : CH) (v : VT) (f p : Nat) : CH × VT := if vW v f = p then (c, v) else (ch_go (aSv c v f).1 p, vOp (aSv c v f).2 f p ((aSv c v f).1.2.2.2 p))
def oLd (c : CH) (v : VT) (f p : Nat) : Prop := vW v f ≠ p ∧ (oSv c v f ∨ (aSv c v f).1.2.2.1 = 0)
def cLd (c : CH) (v : VT) (f : Nat) : CH := if vG v f = true ∧ c.2.2.1 = 0 then c else (aSv c v f).1
theorem aSv_t {c : CH} {v : VT} {f : Nat} (h : vG v f = true) : aSv c v f = (ch_wr c (vW v f) (vB v f), vSv v f) := if_pos h
theorem aSv_f {c : CH} {v : VT} {f : Nat} (h : ¬ vG v f = true) : aSv c v f = (c, v) := if_neg h
section
variable {c c' : CH} {v v' : VT} {cur t : Nat} {q : QT} {bd : Nat → Int32} {I I' : am_MI} {J J' : am_MJ}
theorem vOK.win (h : vOK v) {f : Nat} (hf : f < 8) (hw : vW v f ≠ 0) : 40 ≤ vW v f ∧ vW v f < 101 := by
  obtain ⟨i, hi, e⟩ := h.2.2.2.1 f hf hw
  rw [← e]
  exact h.2.1 f hf i hi
theorem vOK.sv (h : vOK v) {f : Nat} : vOK (vSv v f) := by
  obtain ⟨h1, h2, h3, h4, h5⟩ := h
  refine ⟨h1, h2, h3, h4, fun g hg e => ?_⟩
  have e : fu (vG v) f false g = true := e
  by_cases eg : g = f
  · rw [eg, fu_s] at e; exact absurd e (by decide)
  · rw [fu_n eg] at e; exact h5 g hg e
theorem vOK.asv (h : vOK v) {f : Nat} : vOK (aSv c v f).2 := by
  by_cases e : vG v f = true
  · rw [aSv_t e]; exact h.sv
  · rw [aSv_f e]; exact h
theorem aSv_40 (h : vOK v) {f : Nat} (hf : f < 8) : ∀ p, p < 40 → (aSv c v f).1.2.2.2 p = c.2.2.2 p := fun p hp => by
  by_cases e : vG v f = true
  · rw [aSv_t e]
    have := h.win hf (h.2.2.2.2 f hf e)
    exact fu_n (by omega) ..
  · rw [aSv_f e]
/-- what a save leaves as it was -/
theorem aSv_eq {f : Nat} : vN (aSv c v f).2 = vN v ∧ vL (aSv c v f).2 = vL v ∧ vC (aSv c v f).2 = vC v ∧ vW (aSv c v f).2 = vW v ∧ vB (aSv c v f).2 = vB v ∧ vH (aSv c v f).2 = vH v := by
  by_cases e : vG v f = true
  · rw [aSv_t e]; exact ⟨rfl, rfl, rfl, rfl, rfl, rfl⟩
  · rw [aSv_f e]; exact ⟨rfl, rfl, rfl, rfl, rfl, rfl⟩
theorem vOK.op (h : vOK v) {f p : Nat} {b : Int64} (hp : p = 0 ∨ ∃ i, i < np (vL v f) ∧ vC v f i = p) : vOK (vOp v f p b) := by
  obtain ⟨h1, h2, h3, h4, h5⟩ := h
  refine ⟨h1, h2, h3, fun g hg e => ?_, fun g hg e => ?_⟩
  · by_cases eg : g = f
    · subst eg
      have e1 : vW (vOp v g p b) g = p := fu_s ..
      rw [e1] at e ⊢
      exact hp.elim (fun z => absurd z e) id
    · have e1 : vW (vOp v f p b) g = vW v g := fu_n eg ..
      rw [e1] at e ⊢
      exact h4 g hg e
  · have e : fu (vG v) f false g = true := e
    by_cases eg : g = f
    · rw [eg, fu_s] at e; exact absurd e (by decide)
    · rw [fu_n eg] at e
      have e1 : vW (vOp v f p b) g = vW v g := fu_n eg ..
      rw [e1]
      exact h5 g hg e
theorem rcV.g (h : rcV v I J) {f : Nat} (hf : f < 8) : rcV (vSv v f) (am_ui I (6 + f) 5 0) J := by
  obtain ⟨h1, h2, h3, h4, h5, h6, h7, h8, h9, h10⟩ := h
  have k0 : ∀ g r, r ≠ 5 → am_ui I (6 + f) 5 0 (6 + g) r = I (6 + g) r := fun g r hr => by
    by_cases e : g = f
    · rw [e, pu_f hr]
    · rw [pu_k (by omega)]
  have k1 : ∀ k, 14 ≤ k → am_ui I (6 + f) 5 0 k = I k := fun k hk => pu_k (by omega) ..
  refine ⟨fun g hg => (k0 g 0 (by decide)).trans (h1 g hg), fun g hg => (k0 g 2 (by decide)).trans (h2 g hg), fun g hg => (k0 g 1 (by decide)).trans (h3 g hg), fun g hg => (k0 g 3 (by decide)).trans (h4 g hg), h5, fun g hg => ?_, fun g hg i hi => ?_, fun p hp hn => ?_, fun p hp => ?_, fun p hp => ?_⟩
  · show _ = bI (fu (vG v) f false g)
    by_cases e : g = f
    · rw [e, pu_s, fu_s]; rfl
    · rw [pu_k (by omega), fu_n e]; exact h6 g hg
  · rw [k1 14 (by omega)]; exact h7 g hg i hi
  · rw [k1 14 (by omega)]; exact h8 p hp hn
  · rw [k1 15 (by omega)]; exact h9 p hp
  · rw [k1 16 (by omega)]; exact h10 p hp
theorem rmV.g (h : rmV v I J) {f : Nat} (hf : f < 8) : rmV (vSv v f) (am_ui I 36 f 0) J := by
  obtain ⟨h1, h2, h3, h4, h5, h6, h7⟩ := h
  have k1 : ∀ k, k ≠ 36 → am_ui I 36 f 0 k = I k := fun k hk => pu_k hk ..
  refine ⟨fun g hg => ?_, fun g hg => ?_, fun g hg i hi => ?_, fun g hg => ?_, h5, fun g hg => ?_, fun p hp => ?_⟩
  · rw [k1 31 (by omega)]; exact h1 g hg
  · rw [k1 32 (by omega)]; exact h2 g hg
  · rw [k1 33 (by omega)]; exact h3 g hg i hi
  · rw [k1 34 (by omega)]; exact h4 g hg
  · show _ = bI (fu (vG v) f false g)
    by_cases e : g = f
    · rw [e, pu_s, fu_s]; rfl
    · rw [pu_f e, fu_n e]; exact h6 g hg
  · rw [k1 37 (by omega)]; exact h7 p hp
theorem rcV.op (h : rcV v I J) {f p : Nat} {b : Int64} (hf : f < 8) : rcV (vOp v f p b) (am_ui (am_ui I (6 + f) 3 (nI p)) (6 + f) 5 0) (am_uj J (6 + f) 4 b) := by
  obtain ⟨h1, h2, h3, h4, h5, h6, h7, h8, h9, h10⟩ := h
  generalize hE : am_ui (am_ui I (6 + f) 3 (nI p)) (6 + f) 5 0 = E
  have k0 : ∀ g r, r ≠ 5 → r ≠ 3 → E (6 + g) r = I (6 + g) r := fun g r hr hr2 => by
    rw [← hE]
    by_cases e : g = f
    · rw [e, pu_f hr, pu_f hr2]
    · rw [pu_k (by omega), pu_k (by omega)]
  have k1 : ∀ k, 14 ≤ k → E k = I k := fun k hk => by rw [← hE, pu_k (by omega), pu_k (by omega)]
  refine ⟨fun g hg => (k0 g 0 (by decide) (by decide)).trans (h1 g hg), fun g hg => (k0 g 2 (by decide) (by decide)).trans (h2 g hg), fun g hg => (k0 g 1 (by decide) (by decide)).trans (h3 g hg), fun g hg => ?_, fun g hg hw => ?_, fun g hg => ?_, fun g hg i hi => ?_, fun p hp hn => ?_, fun p hp => ?_, fun p hp => ?_⟩
  · show _ = nI (fu (vW v) f p g)
    by_cases e : g = f
    · rw [← hE, e, pu_f (by decide), pu_s, fu_s]
    · rw [← hE, pu_k (by omega), pu_k (by omega), fu_n e]; exact h4 g hg
  · show _ = fu (vB v) f b g
    by_cases e : g = f
    · rw [e, pj_s, fu_s]
    · have e1 : vW (vOp v f p b) g = vW v g := fu_n e ..
      rw [e1] at hw
      rw [pj_k (by omega), fu_n e]; exact h5 g hg hw
  · show _ = bI (fu (vG v) f false g)
    by_cases e : g = f
    · rw [← hE, e, pu_s, fu_s]; rfl
    · rw [← hE, pu_k (by omega), pu_k (by omega), fu_n e]; exact h6 g hg
  · rw [k1 14 (by omega)]; exact h7 g hg i hi
  · rw [k1 14 (by omega)]; exact h8 p hp hn
  · rw [k1 15 (by omega)]; exact h9 p hp
  · rw [k1 16 (by omega)]; exact h10 p hp
/-- the reference's window: its flag is down already -/
theorem rmV.op (h : rmV v I J) {f p : Nat} {b : Int64} (hf : f < 8) (hp : p ≠ 0) (hg : vG v f = false) : rmV (vOp v f p b) (am_ui I 34 f (nI p)) (am_uj J 35 f b) := by
  obtain ⟨h1, h2, h3, h4, h5, h6, h7⟩ := h
  have k1 : ∀ k, k ≠ 34 → am_ui I 34 f (nI p) k = I k := fun k hk => pu_k hk ..
  refine ⟨fun g hg => ?_, fun g hg => ?_, fun g hg i hi => ?_, fun g hg => ?_, fun g hg hw => ?_, fun g hg' => ?_, fun p hp => ?_⟩
  · rw [k1 31 (by omega)]; exact h1 g hg
  · rw [k1 32 (by omega)]; exact h2 g hg
  · rw [k1 33 (by omega)]; exact h3 g hg i hi
  · show _ = if fu (vW v) f p g = 0 then (-1) else nI (fu (vW v) f p g)
    by_cases e : g = f
    · rw [e, pu_s, fu_s, if_neg hp]
    · rw [pu_f e, fu_n e]; exact h4 g hg
  · show _ = fu (vB v) f b g
    by_cases e : g = f
    · rw [e, pj_s, fu_s]
    · have e1 : vW (vOp v f p b) g = vW v g := fu_n e ..
      rw [e1] at hw
      rw [pj_f e, fu_n e]; exact h5 g hg hw
  · show _ = bI (fu (vG v) f false g)
    rw [k1 36 (by omega), h6 g hg']
    by_cases e : g = f
    · rw [e, fu_s, hg]
    · rw [fu_n e]
  · rw [k1 37 (by omega)]; exact h7 p hp
/-- the class's files alone changed -/
theorem bS.vw (h : bS c v cur t q bd I J) (hv : rcV v' I' J') (h0 : I' 0 = I 0) (h1 : I' 1 = I 1) (h3 : I' 3 = I 3) (h17 : I' 17 = I 17) (h18 : I' 18 = I 18) (h19 : I' 19 = I 19) (j1 : J' 1 = J 1) (j2 : J' 2 = J 2) (j20 : J' 20 = J 20) (j22 : J' 22 = J 22) : bS c v' cur t q bd I' J' := by
  obtain ⟨a1, a2, a3, a4, a5, a6, a7, a8⟩ := h
  refine ⟨a1.mv (by rw [h1]) (by rw [j1]) (by rw [h0]) j2, hv, a3.mv h17 h18 h19 j20 j22, by rw [h0]; exact a4, by rw [h0]; exact a5, by rw [h0]; exact a6, by rw [h1]; exact a7, fun k hk => by rw [h3]; exact a8 k hk⟩
theorem mS.vw (h : mS c v cur t q bd I J) (hv : rmV v' I' J') (h28 : I' 28 = I 28) (h29 : I' 29 = I 29) (h40 : I' 40 = I 40) (h41 : I' 41 = I 41) (j28 : J' 28 = J 28) (j30 : J' 30 = J 30) (j42 : J' 42 = J 42) (j44 : J' 44 = J 44) : mS c v' cur t q bd I' J' := by
  obtain ⟨a1, a2, a3, a4, a5, a6, a7, a8, a9⟩ := h
  refine ⟨a1.mv (by rw [h28]) (by rw [j28]) (by rw [h28]) j30, hv, a3.mv (by rw [h28]) (by rw [h28]) h40 h41 j42 j44, by rw [h28]; exact a4, by rw [h28]; exact a5, by rw [h28]; exact a6, by rw [h28]; exact a7, by rw [h28]; exact a8, fun k hk => by rw [h29]; exact a9 k hk⟩
theorem s_B_save {Q : am_MI → am_MJ → Prop} {X : String → am_MI → am_MJ → Prop} {f : Nat} (hv : vOK v) (hb : bS c v cur t q bd I J) (hf : f < 8)
    (hx : oSv c v f → ∀ I' J', bO c bd I' J' → kM I J I' J' → X "java/lang/IllegalStateException" I' J')
    (hq : ¬ oSv c v f → ∀ I' J', bS (aSv c v f).1 (aSv c v f).2 cur t q bd I' J' → kM I J I' J' → Q I' J') : w_B_save f I J Q X := by
  unfold w_B_save
  have hc := hb.2.1
  rw [hc.2.2.2.2.2.1 f hf, hc.2.2.2.1 f hf, bI0]
  refine ⟨fun e => ?_, fun e => ?_⟩
  · have e1 : ¬ vG v f = true := by rw [e]; decide
    refine hq (fun z => e1 z.1) I J ?_ kM.rf
    rw [aSv_f e1]
    exact hb
  · have e1 : vG v f = true := by
      cases h : vG v f
      · exact absurd h e
      · rfl
    have hw := hv.2.2.2.2 f hf e1
    rw [hc.2.2.2.2.1 f hf hw]
    refine s_B_writePage hb.1 (hv.win hf hw).2 (fun h => hx ⟨e1, h⟩ _ _ hb.off (kM.rf.ui (by omega) _ _)) (fun h I' J' h3 h4 => hq (fun z => h z.2) _ _ ?_ (h4.kM.ui (by omega) _ _))
    rw [aSv_t e1]
    have := hb.go h3 h4
    exact this.vw (this.2.1.g hf) (pu_k (by omega) ..) (pu_k (by omega) ..) (pu_k (by omega) ..) (pu_k (by omega) ..) (pu_k (by omega) ..) (pu_k (by omega) ..) rfl rfl rfl rfl
theorem s_M_save {Q : am_MI → am_MJ → Prop} {X : String → am_MI → am_MJ → Prop} {f : Nat} (hv : vOK v) (hb : mS c v cur t q bd I J) (hf : f < 8)
    (hx : oSv c v f → ∀ I' J', mO c bd I' J' → kB I J I' J' → Q I' J')
    (hq : ¬ oSv c v f → ∀ I' J', mS (aSv c v f).1 (aSv c v f).2 cur t q bd I' J' → kB I J I' J' → Q I' J') : w_M_save (nI f) I J Q X := by
  unfold w_M_save
  have hc := hb.2.1
  rw [nI_clamp (by omega), hc.2.2.2.2.2.1 f hf, hc.2.2.2.1 f hf, bI0]
  have hin : vp_in (nI f) 8 := vp_in_nI hf (by omega)
  refine ⟨hin, fun e => ?_, fun e => ?_⟩
  · have e1 : ¬ vG v f = true := by rw [e]; decide
    refine hq (fun z => e1 z.1) I J ?_ kB.rf
    rw [aSv_f e1]
    exact hb
  · have e1 : vG v f = true := by
      cases h : vG v f
      · exact absurd h e
      · rfl
    have hw := hv.2.2.2.2 f hf e1
    rw [hc.2.2.2.2.1 f hf hw, if_neg hw]
    refine ⟨hin, hin, s_M_write hb.1 hb.2.2.2.2.2.1 (hv.win hf hw).2 (fun h => ⟨hin, hx ⟨e1, h⟩ _ _ (hb.off.ui (by omega) (by omega) _ _) ((kB.rf.ui (by omega) _ _).ui (by omega) _ _)⟩) (fun h I' J' h3 h3' h4 => ⟨hin, hq (fun z => h z.2) _ _ ?_ (h4.kB.ui (by omega) _ _)⟩)⟩
    rw [aSv_t e1]
    have := hb.go h3 h3' h4
    exact this.vw (this.2.1.g hf) (pu_k (by omega) ..) (pu_k (by omega) ..) (pu_k (by omega) ..) (pu_k (by omega) ..) rfl rfl rfl rfl
/-- the reference's save with the power off -/
theorem s_M_saveO {Q : am_MI → am_MJ → Prop} {X : String → am_MI → am_MJ → Prop} {f : Nat} (hb : mO c bd I J) (hf : f < 8)
    (hq : ∀ I' J', mO c bd I' J' → kB I J I' J' → Q I' J') : w_M_save (nI f) I J Q X := by
  unfold w_M_save
  have hin : vp_in (nI f) 8 := vp_in_nI hf (by omega)
  rw [nI_clamp (by omega)]
  refine ⟨hin, fun e => hq I J hb kB.rf, fun e => ⟨hin, hin, s_M_writeOff hb.2.1 ⟨hin, hq _ _ (hb.ui (by omega) (by omega) _ _) (kB.rf.ui (by omega) _ _)⟩⟩⟩
theorem cLd_t {f : Nat} (h : oSv c v f) : cLd c v f = c := if_pos h
theorem cLd_f {f : Nat} (h : ¬ oSv c v f) : cLd c v f = (aSv c v f).1 := if_neg h
theorem s_B_load {Q : am_MI → am_MJ → Prop} {X : String → am_MI → am_MJ → Prop} {f p : Nat} (hv : vOK v) (hb : bS c v cur t q bd I J) (hf : f < 8) (hp : p < 101)
    (hx : oLd c v f p → ∀ I' J', bO (cLd c v f) bd I' J' → kM I J I' J' → X "java/lang/IllegalStateException" I' J')
    (hq : ¬ oLd c v f p → ∀ I' J', bS (aLd c v f p).1 (aLd c v f p).2 cur t q bd I' J' → kM I J I' J' → Q I' J') : w_B_load f (nI p) I J Q X := by
  unfold w_B_load
  have hc := hb.2.1
  have hw100 : vW v f < 2 ^ 31 := by
    by_cases e : vW v f = 0
    · omega
    · have := hv.win hf e; omega
  rw [hc.2.2.2.1 f hf, nI_eq hw100 (by omega)]
  refine ⟨fun e => ?_, fun e => ?_⟩
  · refine s_B_save hv hb hf (fun h I' J' h1 h2 => hx ⟨e, Or.inl h⟩ I' J' (by rw [cLd_t h]; exact h1) h2) (fun h I1 J1 h1 h2 => ?_)
    refine s_B_readPage h1.1 hp (fun h3 => hx ⟨e, Or.inr h3⟩ _ _ (by rw [cLd_f h]; exact h1.off) (h2.ui (by omega) _ _)) (fun h3 I2 J2 g1 g2 g3 => ?_)
    unfold w_E_openWindow
    refine hq (fun z => z.2.elim h h3) _ _ ?_ (((h2.tr g2.kM).ui (by omega) _ _).ui (by omega) _ _ |>.uj (by omega) _ _)
    have ea : aLd c v f p = (ch_go (aSv c v f).1 p, vOp (aSv c v f).2 f p ((aSv c v f).1.2.2.2 p)) := if_neg e
    rw [ea]
    have h5 := h1.go g1 g2
    have kk : ∀ k, k ≠ 6 + f → am_ui (am_ui I2 (6 + f) 3 (nI p)) (6 + f) 5 0 k = I2 k := fun k hk => by rw [pu_k hk, pu_k hk]
    exact h5.vw (h5.2.1.op hf) (kk 0 (by omega)) (kk 1 (by omega)) (kk 3 (by omega)) (kk 17 (by omega)) (kk 18 (by omega)) (kk 19 (by omega)) (pj_k (by omega) ..) (pj_k (by omega) ..) (pj_k (by omega) ..) (pj_k (by omega) ..)
  · refine hq (fun z => z.1 e) I J ?_ kM.rf
    have ea : aLd c v f p = (c, v) := if_pos e
    rw [ea]
    exact hb
theorem s_M_load {Q : am_MI → am_MJ → Prop} {X : String → am_MI → am_MJ → Prop} {f p : Nat} (hv : vOK v) (hb : mS c v cur t q bd I J) (hf : f < 8) (hp : p < 101) (hp0 : p ≠ 0)
    (hx : oLd c v f p → ∀ I' J', mO (cLd c v f) bd I' J' → kB I J I' J' → Q I' J')
    (hq : ¬ oLd c v f p → ∀ I' J', mS (aLd c v f p).1 (aLd c v f p).2 cur t q bd I' J' → kB I J I' J' → Q I' J') : w_M_load (nI f) (nI p) I J Q X := by
  unfold w_M_load
  have hc := hb.2.1
  have hin : vp_in (nI f) 8 := vp_in_nI hf (by omega)
  have he : I 34 f = nI p ↔ vW v f = p := by
    rw [hc.2.2.2.1 f hf]
    by_cases e : vW v f = 0
    · rw [if_pos e, e]
      exact ⟨fun z => absurd z.symm (nI_neg1 (by omega)), fun z => absurd z.symm hp0⟩
    · rw [if_neg e]
      have := hv.win hf e
      exact nI_eq (by omega) (by omega)
  rw [nI_clamp (by omega), he]
  refine ⟨hin, fun e => ?_, fun e => ?_⟩
  · refine hq (fun z => z.1 e) I J ?_ kB.rf
    have ea : aLd c v f p = (c, v) := if_pos e
    rw [ea]
    exact hb
  · refine s_M_save hv hb hf (fun h I1 J1 h1 h2 => ?_) (fun h I1 J1 h1 h2 => ?_)
    · refine s_M_readOff h1.2.1 ⟨hin, hin, hx ⟨e, Or.inl h⟩ _ _ (by rw [cLd_t h]; exact (h1.ui (by omega) (by omega) _ _).uj (by omega) (by omega) _ _) ((h2.ui (by omega) _ _).uj (by omega) (by omega) _ _)⟩
    · refine s_M_read h1.1 h1.2.2.2.2.2.1 hp (fun h3 => ⟨hin, hin, hx ⟨e, Or.inr h3⟩ _ _ (by rw [cLd_f h]; exact (h1.off.ui (by omega) (by omega) _ _).uj (by omega) (by omega) _ _) (((h2.ui (by omega) _ _).ui (by omega) _ _).uj (by omega) (by omega) _ _)⟩) (fun h3 I2 J2 g1 g1' g2 g3 => ⟨hin, hin, hq (fun z => z.2.elim h h3) _ _ ?_ (((h2.tr g2.kB).ui (by omega) _ _).uj (by omega) (by omega) _ _)⟩)
      have ea : aLd c v f p = (ch_go (aSv c v f).1 p, vOp (aSv c v f).2 f p ((aSv c v f).1.2.2.2 p)) := if_neg e
      rw [ea]
      have h5 := h1.go g1 g1' g2
      have hg : vG (aSv c v f).2 f = false := by
        by_cases e : vG v f = true
        · rw [aSv_t e]; exact fu_s ..
        · rw [aSv_f e]; cases h : vG v f
          · rfl
          · exact absurd h e
      exact h5.vw (h5.2.1.op hf hp0 hg) (pu_k (by omega) ..) (pu_k (by omega) ..) (pu_k (by omega) ..) (pu_k (by omega) ..) (pj_k (by omega) ..) (pj_k (by omega) ..) (pj_k (by omega) ..) (pj_k (by omega) ..)
/-- what a load leaves as it was -/
theorem aLd_eq {f p : Nat} : vN (aLd c v f p).2 = vN v ∧ vL (aLd c v f p).2 = vL v ∧ vC (aLd c v f p).2 = vC v ∧ vH (aLd c v f p).2 = vH v ∧ vW (aLd c v f p).2 f = p := by
  unfold aLd
  split
  · exact ⟨rfl, rfl, rfl, rfl, by assumption⟩
  · have := @aSv_eq c v f
    exact ⟨this.1, this.2.1, this.2.2.1, this.2.2.2.2.2, fu_s ..⟩
theorem aLd_40 (h : vOK v) {f p : Nat} (hf : f < 8) : ∀ p', p' < 40 → (aLd c v f p).1.2.2.2 p' = c.2.2.2 p' := fun p' hp' => by
  unfold aLd
  split
  · rfl
  · exact aSv_40 h hf p' hp'
theorem cLd_40 (h : vOK v) {f : Nat} (hf : f < 8) : ∀ p', p' < 40 → (cLd c v f).2.2.2 p' = c.2.2.2 p' := fun p' hp' => by
  by_cases e : oSv c v f
  · rw [cLd_t e]
  · rw [cLd_f e]; exact aSv_40 h hf p' hp'
theorem vOK.ld (h : vOK v) {f p : Nat} (hp : ∃ i, i < np (vL v f) ∧ vC v f i = p) : vOK (aLd c v f p).2 := by
  unfold aLd
  split
  · exact h
  · have e := @aSv_eq c v f
    refine (h.asv).op (Or.inr ?_)
    rw [e.2.1, e.2.2.1]
    exact hp
end
theorem IMG.OI {cur t : Nat} {d : Nat → Int64} (h : IMG cur t d) (hc : cur < 2) (ht : t < 256) : OIMG d := Or.inr ⟨cur, hc, t, ht, h⟩
theorem op_byteAt {I : am_MI} {J : am_MJ} {a b : Int32} {K : Int32 → am_MI → am_MJ → Prop} (h : INV I J) (hK : ∀ k I1 J1, w_M_byteAt a b I1 J1 (fun r I2 J2 => FINi INV k r I2 J2) FF → K k I1 J1) : w_L_byteAt a b I J K FF := by
  unfold w_L_byteAt w_B_byteAt
  have err : ∀ y : Int32, ¬ y ≤ 0 → w_M_byteAt_43 a b y I J (fun r I2 J2 => FINi INV y r I2 J2) FF := fun y hy => by
    unfold w_M_byteAt_43
    rw [pu_s]
    exact ⟨fun z => absurd z hy, fun _ => fin_i (pu_s ..) (fun z => absurd (by rw [z]; decide) hy) (h.code y)⟩
  rcases h.split with ⟨h4, hm⟩ | ⟨h4, h7, h8⟩
  · refine s_B_entry0 h4 (Or.inl ⟨rfl, hK _ _ _ ?_⟩)
    unfold w_M_byteAt
    exact s_M_isReady0 hm ⟨fun z => absurd rfl z, fun _ => err 1 (by decide)⟩
  · obtain ⟨c, v, cur, t, q, bd, hv, hcur, ht, hq, hi, hb, hm⟩ := h.on h4
    have hc := hb.2.1
    have hmv := hm.2.1
    refine s_B_entryOf h4 hc (fun f hf e hn => ?_) (fun hn => Or.inr (Or.inl ⟨rfl, hK _ _ _ ?_⟩))
    · subst e
      have hl := hv.len hf
      have he : I (6 + f) 2 = I 32 f := (hc.2.1 f hf).trans (hmv.2.1 f hf).symm
      have three : (¬ (0 ≤ b ∧ b < I 32 f)) → w_M_byteAt (nI f) b I J (fun r I2 J2 => FINi INV 3 r I2 J2) FF := fun hbad => by
        unfold w_M_byteAt w_M_byteAt_38
        refine s_M_isReady1 h7 h8 ⟨fun _ => s_M_isFile hmv (fun g hg e2 g2 => ⟨fun _ => ⟨fun _ => err 3 (by decide), fun z => ⟨vp_in_nI hf (by omega), ?_⟩⟩, fun z => absurd z (by decide)⟩) (fun z => absurd (z f hf rfl) hn), fun z => absurd z (by decide)⟩
        rw [nI_clamp (by omega)]
        exact ⟨fun z2 => absurd ⟨Int32.not_lt.mp z, z2⟩ hbad, fun _ => err 3 (by decide)⟩
      refine ⟨fun hb0 => Or.inr (Or.inr ⟨rfl, hK _ _ _ (three (fun z => absurd hb0 (Int32.not_lt.mpr z.1)))⟩), fun hb0 => ⟨fun hb1 => ?_, fun hb1 => Or.inr (Or.inr ⟨rfl, hK _ _ _ (three (fun z => hb1 (by rw [he]; exact z.2)))⟩)⟩⟩
      obtain ⟨i, hi31, rfl⟩ := nI_of hb0
      rw [hc.2.1 f hf] at hb1
      have hil : i < vL v f := (nI_ltI hi31 (by omega)).mp hb1
      have hnp : i / 8 < np (vL v f) := by unfold np; omega
      have hpg := hv.2.1 f hf (i / 8) hnp
      have h61 := hv.pg hf
      have ed : nI i / 8 = nI (i / 8) := pk_div (d := 8) (by omega) (by omega) (by omega)
      have er : nI i - nI i / 8 * 8 = nI (i % 8) := pk_rem (d := 8) (by omega) (by omega) (by omega)
      have en : ∀ I' J', mS c v cur t q bd I' J' → vp_in (((64 : Int32) * nI f) + nI i / 8) 512 ∧ (I' 33 (((64 : Int32) * nI f) + nI i / 8).toNatClampNeg = nI (vC v f (i / 8))) := fun I' J' hm' => by
        rw [ed, pk_64]
        refine ⟨vp_in_nI (by omega) (by omega), ?_⟩
        rw [nI_clamp (by omega)]
        exact hm'.2.1.2.2.1 f hf _ hnp
      -- the reference up to its load
      have ref : ∀ (k : Int32) I1 J1, mS c v cur t q bd I1 J1 → I1 32 f = nI (vL v f) → (w_M_load (nI f) (nI (vC v f (i / 8))) (am_ui I1 28 0 0) J1 (fun I12 J13 => ((I12 28 7) = 0 → (w_M_byteAt_87 (nI f) (nI i) 1 I12 J13 (fun r I2 J2 => FINi INV k r I2 J2) FF)) ∧ (¬ ((I12 28 7) = 0) → (w_M_byteAt_87 (nI f) (nI i) 0 I12 J13 (fun r I2 J2 => FINi INV k r I2 J2) FF))) FF) → w_M_byteAt (nI f) (nI i) I1 J1 (fun r I2 J2 => FINi INV k r I2 J2) FF := fun k I1 J1 hm1 hl1 hw => by
        unfold w_M_byteAt
        refine s_M_isReady1 hm1.2.2.2.2.2.1 hm1.2.2.2.2.2.2.1 ⟨fun _ => s_M_isFile hm1.2.1 (fun g hg e2 g2 => ⟨fun _ => ⟨fun z => absurd z hb0, fun _ => ⟨vp_in_nI hf (by omega), ?_⟩⟩, fun z => absurd z (by decide)⟩) (fun z => absurd (z f hf rfl) hn), fun z => absurd z (by decide)⟩
        rw [nI_clamp (by omega), hl1]
        refine ⟨fun _ => ?_, fun z => absurd hb1 z⟩
        unfold w_M_byteAt_43
        rw [pu_s]
        obtain ⟨e1, e2⟩ := en _ _ (hm1.code 0)
        refine ⟨fun _ => ⟨e1, ?_⟩, fun z => absurd (by decide) z⟩
        rw [e2]
        exact hw
      rw [er, ed]
      refine s_D_pageAt hv hc hf hnp (s_B_load hv hb hf hpg.2 (fun ho I1 J1 h1 h2 => Or.inl ⟨rfl, hK _ _ _ ?_⟩) (fun ho I1 J1 h1 h2 => ?_))
      · have hm1 := hm.km h2
        refine ref 1 I1 J1 hm1 (hm1.2.1.2.1 f hf) (s_M_load hv (hm1.code 0) hf hpg.2 (by omega) (fun _ I2 J2 g1 g2 => ?_) (fun z => absurd ho z))
        rw [g1.2.1]
        refine ⟨fun _ => ?_, fun z => absurd rfl z⟩
        unfold w_M_byteAt_87
        rw [pu_s]
        refine ⟨fun z => absurd z (by decide), fun _ => fin_i (pu_s ..) (fun z => absurd z (by decide)) ?_⟩
        exact INV.of_off ((hi.mv hcur (cLd_40 hv hf)).OI hcur ht) (h1.kb ((kB.rf.ui (by omega) _ _).tr g2 |>.ui (by omega) _ _)) (g1.u28 (by decide) _)
      · unfold w_E_byteInWindow
        refine ⟨in01, hK _ _ _ ?_⟩
        have hvl : vOK (aLd c v f (vC v f (i / 8))).2 := hv.ld ⟨i / 8, hnp, rfl⟩
        have hwn : vW (aLd c v f (vC v f (i / 8))).2 f ≠ 0 := by rw [aLd_eq.2.2.2.2]; omega
        rw [by_c (by omega), h1.2.1.2.2.2.2.1 f hf hwn]
        have hm1 := (hm.km h2).out 0 (nI (by64 (vB (aLd c v f (vC v f (i / 8))).2 f) (i % 8))).toInt64
        refine ref 0 _ _ hm1 (hm1.2.1.2.1 f hf) (s_M_load hv (hm1.code 0) hf hpg.2 (by omega) (fun z => absurd z ho) (fun _ I2 J2 g1 g2 => ?_))
        rw [g1.2.2.2.2.2.1]
        refine ⟨fun z => absurd z (by decide), fun _ => ?_⟩
        unfold w_M_byteAt_87
        rw [pu_s]
        refine ⟨fun _ => ⟨vp_in_nI hf (by omega), ?_⟩, fun z => absurd (by decide) z⟩
        rw [er, nI_clamp (by omega), g1.2.1.2.2.2.2.1 f hf hwn, by_m (by omega)]
        refine fin_i (pu_s ..) (fun _ => ?_) ?_
        · rw [g2.2 45 (Or.inr rfl)]
          exact pj_s ..
        · exact INV.of_on hvl hcur ht hq (hi.mv hcur (aLd_40 hv hf)) ((h1.out _ _).kb ((kB.rf.ui (by omega) _ _).tr g2 |>.ui (by omega) _ _)) (g1.code 0)
    · unfold w_M_byteAt
      exact s_M_isReady1 h7 h8 ⟨fun _ => s_M_isFile hmv (fun g hg e2 g2 => absurd (hn g hg e2) g2) (fun _ => ⟨fun z => absurd rfl z, fun _ => err 2 (by decide)⟩), fun z => absurd z (by decide)⟩
theorem case10 {L0 : Nat} {xs : Nat → Int32} {x4 : Int32} {I : am_MI} {J : am_MJ} (h0 : 0 ≤ x4.toInt) (h5 : x4.toInt + 5 ≤ L0) (hL : L0 ≤ 2560) (h : INV I J) : w_case10 L0 xs x4 I J INV :=
  ⟨xin (j := 1) h0 h5 hL (by omega), xin (j := 2) h0 h5 hL (by omega), op_byteAt h (fun _ _ _ hm => ⟨xin (j := 1) h0 h5 hL (by omega), xin (j := 2) h0 h5 hL (by omega), hm⟩)⟩
end PU9
