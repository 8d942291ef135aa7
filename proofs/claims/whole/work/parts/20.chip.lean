section PU0
/-! the pure side: writes, the chip, transfers -/
theorem pu_s (I : am_MI) (k f : Nat) (v : Int32) : am_ui I k f v k f = v := by simp [am_ui, upd]
theorem pu_k {k k' : Nat} (h : k' ≠ k) (I : am_MI) (f : Nat) (v : Int32) : am_ui I k f v k' = I k' := by unfold am_ui; rw [if_neg h]
theorem pu_f {f f' : Nat} (h : f' ≠ f) (I : am_MI) (k : Nat) (v : Int32) : am_ui I k f v k f' = I k f' := by simp [am_ui, upd, h]
theorem pj_s (J : am_MJ) (k f : Nat) (v : Int64) : am_uj J k f v k f = v := by simp [am_uj, vp_updL]
theorem pj_k {k k' : Nat} (h : k' ≠ k) (J : am_MJ) (f : Nat) (v : Int64) : am_uj J k f v k' = J k' := by unfold am_uj; rw [if_neg h]
theorem pj_f {f f' : Nat} (h : f' ≠ f) (J : am_MJ) (k : Nat) (v : Int64) : am_uj J k f v k f' = J k f' := by simp [am_uj, vp_updL, h]
def fu {α : Type} (f : Nat → α) (k : Nat) (x : α) : Nat → α := fun j => if j = k then x else f j
theorem fu_s {α : Type} (f : Nat → α) (k : Nat) (x : α) : fu f k x k = x := by simp [fu]
theorem fu_n {α : Type} {k j : Nat} (h : j ≠ k) (f : Nat → α) (x : α) : fu f k x j = f j := by simp [fu, h]
/-- steps from a place to a page -/
def pd (p q : Nat) : Nat := if p ≤ q then q - p else q + 101 - p
theorem pd_lt {p q : Nat} (hp : p < 101) (hq : q < 101) : pd p q < 101 := by unfold pd; split <;> omega
theorem pd_mod {p q : Nat} (hp : p < 101) (hq : q < 101) : (q + 101 - p) % 101 = pd p q := by
  unfold pd
  split
  · omega
  · omega
theorem i_n (x : Int32) (n : Nat) (h : x = nI n) (hn : n < 2 ^ 31) : x.toInt = n := by rw [h, nI_toInt hn]
/-- a chip: place, steps, transfers left, pages -/
abbrev CH : Type := Nat × Int64 × Int32 × (Nat → Int64)
def ch_go (c : CH) (p : Nat) : CH := (p, c.2.1 + lN (pd c.1 p), if c.2.2.1 ≤ 0 then c.2.2.1 else c.2.2.1 - 1, c.2.2.2)
def ch_wr (c : CH) (p : Nat) (b : Int64) : CH := ((ch_go c p).1, (ch_go c p).2.1, (ch_go c p).2.2.1, fu c.2.2.2 p b)
def rcC (c : CH) (I : am_MI) (J : am_MJ) : Prop := c.1 < 101 ∧ I 1 3 = nI c.1 ∧ J 1 4 = c.2.1 ∧ I 0 5 = c.2.2.1 ∧ ∀ p, p < 101 → J 2 p = c.2.2.2 p
def rmC (c : CH) (I : am_MI) (J : am_MJ) : Prop := c.1 < 101 ∧ I 28 4 = nI c.1 ∧ J 28 5 = c.2.1 ∧ I 28 6 = c.2.2.1 ∧ ∀ p, p < 101 → J 30 p = c.2.2.2 p
/-- the class's chip cells alone have changed -/
def fB (I : am_MI) (J : am_MJ) (I' : am_MI) (J' : am_MJ) : Prop := (∀ k, k ≠ 0 → k ≠ 1 → I' k = I k) ∧ (∀ f, f ≠ 5 → I' 0 f = I 0 f) ∧ (∀ f, f ≠ 3 → I' 1 f = I 1 f) ∧ ∀ k, k ≠ 1 → k ≠ 2 → J' k = J k
theorem fB.rf {I : am_MI} {J : am_MJ} : fB I J I J := ⟨fun _ _ _ => rfl, fun _ _ => rfl, fun _ _ => rfl, fun _ _ _ => rfl⟩
theorem fB.tr {I I1 I2 : am_MI} {J J1 J2 : am_MJ} (h : fB I J I1 J1) (g : fB I1 J1 I2 J2) : fB I J I2 J2 :=
  ⟨fun k a b => (g.1 k a b).trans (h.1 k a b), fun f a => (g.2.1 f a).trans (h.2.1 f a), fun f a => (g.2.2.1 f a).trans (h.2.2.1 f a), fun k a b => (g.2.2.2 k a b).trans (h.2.2.2 k a b)⟩
/-- the reference's chip cells alone have changed (and whether it is on) -/
def fM (I : am_MI) (J : am_MJ) (I' : am_MI) (J' : am_MJ) : Prop := (∀ k, k ≠ 28 → I' k = I k) ∧ (∀ f, f ≠ 4 → f ≠ 6 → f ≠ 7 → I' 28 f = I 28 f) ∧ ∀ k, k ≠ 28 → k ≠ 30 → J' k = J k
theorem fM.rf {I : am_MI} {J : am_MJ} : fM I J I J := ⟨fun _ _ => rfl, fun _ _ _ _ => rfl, fun _ _ _ => rfl⟩
theorem fM.tr {I I1 I2 : am_MI} {J J1 J2 : am_MJ} (h : fM I J I1 J1) (g : fM I1 J1 I2 J2) : fM I J I2 J2 :=
  ⟨fun k a => (g.1 k a).trans (h.1 k a), fun f a b c => (g.2.1 f a b c).trans (h.2.1 f a b c), fun k a b => (g.2.2 k a b).trans (h.2.2 k a b)⟩
theorem s_C_stepsTo {I : am_MI} {J : am_MJ} {Q : Int32 → am_MI → am_MJ → Prop} {X : String → am_MI → am_MJ → Prop} {p q : Nat} (hp : I 1 3 = nI p) (h1 : p < 101) (h2 : q < 101) (hq : Q (nI (pd p q)) I J) : w_C_stepsTo (nI q) I J Q X := by
  unfold w_C_stepsTo
  rw [hp]
  have e1 : nI q < nI p ↔ q < p := nI_ltI (by omega) (by omega)
  refine ⟨fun h => ?_, fun h => ?_⟩
  · have h := e1.mp h
    have e : nI q - nI p + 101 = nI (pd p q) := by
      have e2 : nI q - nI p + 101 = nI q + nI 101 - nI p := by
        show nI q - nI p + nI 101 = _
        simp only [Int32.sub_eq_add_neg, Int32.add_assoc, Int32.add_comm (-nI p)]
      rw [e2, nI_add, pk_sub (by omega)]
      unfold pd
      rw [if_neg (by omega)]
    rw [e]
    exact hq
  · have h : ¬ q < p := fun z => h (e1.mpr z)
    rw [pk_sub (by omega)]
    unfold pd at hq
    rw [if_pos (by omega)] at hq
    exact hq
theorem s_C_turnTo {I : am_MI} {J : am_MJ} {Q : am_MI → am_MJ → Prop} {X : String → am_MI → am_MJ → Prop} {p q : Nat} (hp : I 1 3 = nI p) (h1 : p < 101) (h2 : q < 101) (hq : Q (am_ui I 1 3 (nI q)) (am_uj J 1 4 (J 1 4 + lN (pd p q)))) : w_C_turnTo (nI q) I J Q X := by
  unfold w_C_turnTo
  refine s_C_stepsTo hp h1 h2 ?_
  rw [nI_l (by have := pd_lt h1 h2; omega)]
  exact hq
theorem s_M_stepsTo {I : am_MI} {J : am_MJ} {Q : Int32 → am_MI → am_MJ → Prop} {X : String → am_MI → am_MJ → Prop} {p q : Nat} (hp : I 28 4 = nI p) (h1 : p < 101) (h2 : q < 101) (hq : Q (nI (pd p q)) I J) : w_M_stepsTo (nI q) I J Q X := by
  unfold w_M_stepsTo
  rw [hp, show (101 : Int32) = nI 101 from rfl, nI_add, pk_sub (by omega), pk_rem (by omega) (by omega) (by omega), pd_mod h1 h2]
  exact hq
theorem s_M_turnTo {I : am_MI} {J : am_MJ} {Q : am_MI → am_MJ → Prop} {X : String → am_MI → am_MJ → Prop} {p q : Nat} (hp : I 28 4 = nI p) (h1 : p < 101) (h2 : q < 101) (hq : Q (am_ui I 28 4 (nI q)) (am_uj J 28 5 (J 28 5 + lN (pd p q)))) : w_M_turnTo (nI q) I J Q X := by
  unfold w_M_turnTo
  refine s_M_stepsTo hp h1 h2 ?_
  rw [nI_l (by have := pd_lt h1 h2; omega)]
  exact hq
/-- a transfer of the class: power, then the turn -/
theorem s_B_go {I : am_MI} {J : am_MJ} {K : am_MI → am_MJ → Prop} {X : String → am_MI → am_MJ → Prop} {c : CH} {q : Nat} (hc : rcC c I J) (h2 : q < 101)
    (hx : c.2.2.1 = 0 → X "java/lang/IllegalStateException" (am_ui I 0 4 0) J)
    (hq : ¬ c.2.2.1 = 0 → ∀ I' J', rcC (ch_go c q) I' J' → fB I J I' J' → J' 2 = J 2 → K I' J') : w_B_usePower I J (fun I1 J2 => w_C_turnTo (nI q) I1 J2 K (fun _ _ _ => False)) X := by
  obtain ⟨c1, c2, c3, c4, c5⟩ := hc
  unfold w_B_usePower
  rw [c4]
  refine ⟨fun h => ⟨fun h3 => ?_, fun h3 => ?_⟩, fun h => hx h⟩
  · refine s_C_turnTo c2 c1 h2 (hq h _ _ ⟨h2, pu_s .., ?_, ?_, fun p hp => ?_⟩ ⟨fun k a b => pu_k b .., fun f a => congrFun (pu_k (by decide) ..) f, fun f a => pu_f a .., fun k a b => pj_k a ..⟩ (pj_k (by decide) ..))
    · rw [pj_s, c3]; rfl
    · rw [pu_k (by decide), c4]
      show _ = if c.2.2.1 ≤ 0 then c.2.2.1 else _
      rw [if_pos h3]
    · rw [pj_k (by decide)]
      exact c5 p hp
  · refine s_C_turnTo (p := c.1) (by rw [pu_k (by decide)]; exact c2) c1 h2 (hq h _ _ ⟨h2, pu_s .., ?_, ?_, fun p hp => ?_⟩ ⟨fun k a b => (pu_k b ..).trans (pu_k a ..), fun f a => (congrFun (pu_k (by decide) ..) f).trans (pu_f a ..), fun f a => (pu_f a ..).trans (congrFun (pu_k (by decide) ..) f), fun k a b => pj_k a ..⟩ (pj_k (by decide) ..))
    · rw [pj_s, c3]; rfl
    · rw [pu_k (by decide), pu_s]
      show _ = if c.2.2.1 ≤ 0 then c.2.2.1 else _
      rw [if_neg h3]
    · rw [pj_k (by decide)]
      exact c5 p hp
theorem s_B_readPage {I : am_MI} {J : am_MJ} {Q : Int64 → am_MI → am_MJ → Prop} {X : String → am_MI → am_MJ → Prop} {c : CH} {q : Nat} (hc : rcC c I J) (h2 : q < 101)
    (hx : c.2.2.1 = 0 → X "java/lang/IllegalStateException" (am_ui I 0 4 0) J)
    (hq : ¬ c.2.2.1 = 0 → ∀ I' J', rcC (ch_go c q) I' J' → fB I J I' J' → J' 2 = J 2 → Q (c.2.2.2 q) I' J') : w_B_readPage (nI q) I J Q X := by
  unfold w_B_readPage
  refine s_B_go hc h2 hx (fun h I' J' h3 h4 h5 => ⟨vp_in_nI h2 (by omega), ?_⟩)
  rw [nI_clamp (by omega), h3.2.2.2.2 q h2]
  exact hq h I' J' h3 h4 h5
theorem s_B_writePage {I : am_MI} {J : am_MJ} {Q : am_MI → am_MJ → Prop} {X : String → am_MI → am_MJ → Prop} {c : CH} {q : Nat} {b : Int64} (hc : rcC c I J) (h2 : q < 101)
    (hx : c.2.2.1 = 0 → X "java/lang/IllegalStateException" (am_ui I 0 4 0) J)
    (hq : ¬ c.2.2.1 = 0 → ∀ I' J', rcC (ch_wr c q b) I' J' → fB I J I' J' → Q I' J') : w_B_writePage (nI q) b I J Q X := by
  unfold w_B_writePage
  refine s_B_go hc h2 hx (fun h I' J' h3 h4 h5 => ⟨vp_in_nI h2 (by omega), ?_⟩)
  rw [nI_clamp (by omega)]
  obtain ⟨d1, d2, d3, d4, d5⟩ := h3
  refine hq h I' _ ⟨d1, d2, by rw [pj_k (by decide)]; exact d3, d4, fun p hp => ?_⟩ (h4.tr ⟨fun _ _ _ => rfl, fun _ _ => rfl, fun _ _ => rfl, fun k a b => pj_k b ..⟩)
  show _ = fu c.2.2.2 q b p
  by_cases e : p = q
  · subst e
    rw [pj_s, fu_s]
  · rw [pj_f e, fu_n e, d5 p hp]
    rfl
/-- a transfer of the reference -/
theorem s_M_goes {I : am_MI} {J : am_MJ} {Q : Int32 → am_MI → am_MJ → Prop} {X : String → am_MI → am_MJ → Prop} {c : CH} {q : Nat} (hc : rmC c I J) (hon : I 28 7 = 1) (h2 : q < 101)
    (hx : c.2.2.1 = 0 → Q 0 (am_ui I 28 7 0) J)
    (hq : ¬ c.2.2.1 = 0 → ∀ I' J', rmC (ch_go c q) I' J' → I' 28 7 = 1 → fM I J I' J' → J' 30 = J 30 → Q 1 I' J') : w_M_goes (nI q) I J Q X := by
  obtain ⟨c1, c2, c3, c4, c5⟩ := hc
  unfold w_M_goes
  rw [c4]
  refine ⟨fun h => ?_, fun h => ?_⟩
  · unfold w_M_goes_12
    rw [hon, c4]
    refine ⟨fun _ => ⟨fun h3 => ?_, fun h3 => ?_⟩, fun h => absurd h (by decide)⟩
    · unfold w_M_goes_42
      refine s_M_turnTo (p := c.1) (by rw [pu_f (by decide)]; exact c2) c1 h2 (hq h _ _ ⟨h2, pu_s .., ?_, ?_, fun p hp => ?_⟩ ?_ ⟨fun k a => (pu_k a ..).trans (pu_k a ..), fun f a b d => (pu_f a ..).trans (pu_f b ..), fun k a b => pj_k a ..⟩ (pj_k (by decide) ..))
      · rw [pj_s, c3]; rfl
      · rw [pu_f (by decide), pu_s]
        show _ = if c.2.2.1 ≤ 0 then c.2.2.1 else _
        rw [if_pos h3]
      · rw [pj_k (by decide)]
        exact c5 p hp
      · rw [pu_f (by decide), pu_f (by decide)]
        exact hon
    · unfold w_M_goes_42
      refine s_M_turnTo (p := c.1) (by rw [pu_f (by decide)]; exact c2) c1 h2 (hq h _ _ ⟨h2, pu_s .., ?_, ?_, fun p hp => ?_⟩ ?_ ⟨fun k a => (pu_k a ..).trans (pu_k a ..), fun f a b d => (pu_f a ..).trans (pu_f b ..), fun k a b => pj_k a ..⟩ (pj_k (by decide) ..))
      · rw [pj_s, c3]; rfl
      · rw [pu_f (by decide), pu_s]
        show _ = if c.2.2.1 ≤ 0 then c.2.2.1 else _
        rw [if_neg h3]
      · rw [pj_k (by decide)]
        exact c5 p hp
      · rw [pu_f (by decide), pu_f (by decide)]
        exact hon
  · unfold w_M_goes_12
    rw [pu_s]
    exact ⟨fun h => absurd rfl h, fun _ => hx h⟩
theorem s_M_write {I : am_MI} {J : am_MJ} {Q : am_MI → am_MJ → Prop} {X : String → am_MI → am_MJ → Prop} {c : CH} {q : Nat} {b : Int64} (hc : rmC c I J) (hon : I 28 7 = 1) (h2 : q < 101)
    (hx : c.2.2.1 = 0 → Q (am_ui I 28 7 0) J)
    (hq : ¬ c.2.2.1 = 0 → ∀ I' J', rmC (ch_wr c q b) I' J' → I' 28 7 = 1 → fM I J I' J' → Q I' J') : w_M_write (nI q) b I J Q X := by
  unfold w_M_write
  rw [hon]
  refine ⟨fun h => absurd h (by decide), fun _ => s_M_goes hc hon h2 (fun h => ⟨fun _ => hx h, fun h => absurd rfl h⟩) (fun h I' J' h3 h4 h5 h6 => ⟨fun h => absurd h (by decide), fun _ => ⟨vp_in_nI h2 (by omega), ?_⟩⟩)⟩
  rw [nI_clamp (by omega)]
  obtain ⟨d1, d2, d3, d4, d5⟩ := h3
  refine hq h I' _ ⟨d1, d2, by rw [pj_k (by decide)]; exact d3, d4, fun p hp => ?_⟩ h4 (h5.tr ⟨fun _ _ => rfl, fun _ _ _ _ => rfl, fun k a b => pj_k b ..⟩)
  show _ = fu c.2.2.2 q b p
  by_cases e : p = q
  · subst e
    rw [pj_s, fu_s]
  · rw [pj_f e, fu_n e, d5 p hp]
    rfl
theorem s_M_writeOff {I : am_MI} {J : am_MJ} {Q : am_MI → am_MJ → Prop} {X : String → am_MI → am_MJ → Prop} {x : Int32} {b : Int64} (hon : I 28 7 = 0) (hq : Q I J) : w_M_write x b I J Q X := by
  unfold w_M_write
  rw [hon]
  exact ⟨fun _ => hq, fun h => absurd rfl h⟩
theorem s_M_read {I : am_MI} {J : am_MJ} {Q : Int64 → am_MI → am_MJ → Prop} {X : String → am_MI → am_MJ → Prop} {c : CH} {q : Nat} (hc : rmC c I J) (hon : I 28 7 = 1) (h2 : q < 101)
    (hx : c.2.2.1 = 0 → Q 0 (am_ui I 28 7 0) J)
    (hq : ¬ c.2.2.1 = 0 → ∀ I' J', rmC (ch_go c q) I' J' → I' 28 7 = 1 → fM I J I' J' → J' 30 = J 30 → Q (c.2.2.2 q) I' J') : w_M_read (nI q) I J Q X := by
  unfold w_M_read
  rw [hon]
  refine ⟨fun h => absurd h (by decide), fun _ => s_M_goes hc hon h2 (fun h => ⟨fun _ => hx h, fun h => absurd rfl h⟩) (fun h I' J' h3 h4 h5 h6 => ⟨fun h => absurd h (by decide), fun _ => ⟨vp_in_nI h2 (by omega), ?_⟩⟩)⟩
  rw [nI_clamp (by omega), h3.2.2.2.2 q h2]
  exact hq h I' J' h3 h4 h5 h6
theorem s_M_readOff {I : am_MI} {J : am_MJ} {Q : Int64 → am_MI → am_MJ → Prop} {X : String → am_MI → am_MJ → Prop} {x : Int32} (hon : I 28 7 = 0) (hq : Q 0 I J) : w_M_read x I J Q X := by
  unfold w_M_read
  rw [hon]
  exact ⟨fun _ => hq, fun h => absurd rfl h⟩
end PU0
