section PU11
/-! append -/
def pt (x : Int64) (k b : Int32) : Int64 := (x &&& (((255 : Int64) <<< (((8 : Int32) * k).toInt64 &&& 63)) ^^^ ((-1) : Int64))) ||| ((b.toInt64 &&& (255 : Int64)) <<< (((8 : Int32) * k).toInt64 &&& 63))
def vApp (v : VT) (f p : Nat) (b : Int64) : VT := (vN v, fu (vL v) f (vL v f + 1), fu (vC v) f (fu (vC v f) (vL v f / 8) p), fu (vW v) f p, fu (vB v) f b, fu (vG v) f true, vH v)
/-- a page that may be the last of file f -/
def pgc (v : VT) (f p : Nat) : Prop := 40 ≤ p ∧ p < 101 ∧ ∀ g, g < 8 → ∀ j, j < np (vL v g) → vC v g j = p → g = f ∧ j = vL v f / 8
section
variable {c c' : CH} {v v' : VT} {cur t : Nat} {q : QT} {bd : Nat → Int32} {I I' : am_MI} {J J' : am_MJ}
theorem vApp_L {f p : Nat} {b : Int64} {g : Nat} : vL (vApp v f p b) g = if g = f then vL v f + 1 else vL v g := rfl
theorem vApp_C {f p : Nat} {b : Int64} {g i : Nat} : vC (vApp v f p b) g i = if g = f ∧ i = vL v f / 8 then p else vC v g i := by
  show fu (vC v) f (fu (vC v f) (vL v f / 8) p) g i = _
  by_cases e : g = f
  · rw [e, fu_s]
    by_cases e2 : i = vL v f / 8
    · rw [if_pos ⟨rfl, e2⟩, e2, fu_s]
    · rw [if_neg (fun z => e2 z.2), fu_n e2]
  · rw [if_neg (fun z => e z.1), fu_n e]
theorem np_1 (n : Nat) : np (n + 1) = n / 8 + 1 := by unfold np; omega
theorem np_0 {n : Nat} (h : n % 8 = 0) : np n = n / 8 := by unfold np; omega
theorem np_n {n : Nat} (h : n % 8 ≠ 0) : np n = n / 8 + 1 := by unfold np; omega
theorem np_ge (n : Nat) : n / 8 ≤ np n ∧ np n ≤ n / 8 + 1 := by unfold np; omega
/-- an old place of the new chains -/
theorem vApp_old {f p : Nat} {b : Int64} {g i : Nat} (hi : i < np (vL (vApp v f p b) g)) (hn : ¬ (g = f ∧ i = vL v f / 8)) : i < np (vL v g) ∧ vC (vApp v f p b) g i = vC v g i := by
  refine ⟨?_, by rw [vApp_C, if_neg hn]⟩
  rw [vApp_L] at hi
  by_cases e : g = f
  · rw [if_pos e, np_1] at hi
    subst e
    have := (np_ge (vL v g)).1
    have : i ≠ vL v g / 8 := fun z => hn ⟨rfl, z⟩
    omega
  · rw [if_neg e] at hi; exact hi
theorem vOK.app (h : vOK v) {f p : Nat} {b : Int64} (hf : f < 8) (hn : vN v f ≠ 0) (hp : pgc v f p) : vOK (vApp v f p b) := by
  obtain ⟨h1, h2, h3, h4, h5⟩ := h
  obtain ⟨p1, p2, p3⟩ := hp
  refine ⟨fun g hg e => ?_, fun g hg i hi => ?_, fun a ha g hg i hi j hj e => ?_, fun g hg hw => ?_, fun g hg hgg => ?_⟩
  · by_cases eg : g = f
    · rw [eg] at e; exact absurd e hn
    · rw [vApp_L, if_neg eg]; exact h1 g hg e
  · by_cases e : g = f ∧ i = vL v f / 8
    · rw [vApp_C, if_pos e]; exact ⟨p1, p2⟩
    · obtain ⟨a, b⟩ := vApp_old hi e
      rw [b]; exact h2 g hg i a
  · by_cases e1 : a = f ∧ i = vL v f / 8
    · by_cases e2 : g = f ∧ j = vL v f / 8
      · exact ⟨e1.1.trans e2.1.symm, e1.2.trans e2.2.symm⟩
      · obtain ⟨x, y⟩ := vApp_old hj e2
        rw [vApp_C, if_pos e1, y] at e
        exact absurd (p3 g hg j x e.symm) e2
    · obtain ⟨x1, y1⟩ := vApp_old hi e1
      by_cases e2 : g = f ∧ j = vL v f / 8
      · rw [y1, vApp_C, if_pos e2] at e
        exact absurd (p3 a ha i x1 e) e1
      · obtain ⟨x, y⟩ := vApp_old hj e2
        rw [y1, y] at e
        exact h3 a ha g hg i x1 j x e
  · by_cases eg : g = f
    · refine ⟨vL v f / 8, ?_, ?_⟩
      · rw [vApp_L, if_pos eg, np_1]; omega
      · rw [vApp_C, if_pos ⟨eg, rfl⟩, eg]
        exact (fu_s ..).symm
    · have e1 : vW (vApp v f p b) g = vW v g := fu_n eg ..
      rw [e1] at hw ⊢
      obtain ⟨i, a, e⟩ := h4 g hg hw
      refine ⟨i, by rw [vApp_L, if_neg eg]; exact a, by rw [vApp_C, if_neg (fun z => eg z.1)]; exact e⟩
  · by_cases eg : g = f
    · have e1 : vW (vApp v f p b) g = p := by rw [eg]; exact fu_s ..
      rw [e1]; omega
    · have e1 : vW (vApp v f p b) g = vW v g := fu_n eg ..
      have e2 : vG (vApp v f p b) g = vG v g := fu_n eg ..
      rw [e1]; rw [e2] at hgg
      exact h5 g hg hgg
theorem rcV.app (hv : vOK v) (h : rcV v I J) {f p : Nat} {b : Int64} (hf : f < 8) (hp : pgc v f p)
    (e1 : ∀ g, g ≠ f → g < 8 → I' (6 + g) = I (6 + g) ∧ J' (6 + g) = J (6 + g)) (e2 : I' (6 + f) 0 = I (6 + f) 0) (e3 : I' (6 + f) 1 = if vL v f / 8 = 0 then nI p else I (6 + f) 1) (e4 : I' (6 + f) 2 = nI (vL v f + 1)) (e5 : I' (6 + f) 3 = nI p) (e6 : I' (6 + f) 5 = 1) (e7 : J' (6 + f) 4 = b)
    (e8 : ∀ r, I' 14 r = if 0 < vL v f / 8 ∧ r = vC v f (vL v f / 8 - 1) then nI p else I 14 r) (e9 : ∀ r, I' 15 r = if r = p then 1 else if vL v f % 8 ≠ 0 ∧ r = vC v f (vL v f / 8) then 0 else I 15 r) (e10 : I' 16 = I 16) : rcV (vApp v f p b) I' J' := by
  obtain ⟨h1, h2, h3, h4, h5, h6, h7, h8, h9, h10⟩ := h
  obtain ⟨p1, p2, p3⟩ := hp
  have hge := np_ge (vL v f)
  have inj : ∀ g, g < 8 → ∀ i, i < np (vL v g) → ∀ j, j < np (vL v f) → vC v g i = vC v f j → g = f ∧ i = j := fun g hg i hi j hj e => hv.2.2.1 g hg f hf i hi j hj e
  refine ⟨fun g hg => ?_, fun g hg => ?_, fun g hg => ?_, fun g hg => ?_, fun g hg hw => ?_, fun g hg => ?_, fun g hg i hi => ?_, fun r hr hh => ?_, fun r hr => ?_, fun r hr => ?_⟩
  · by_cases e : g = f
    · rw [e, e2]; exact h1 f hf
    · rw [(e1 g e hg).1]; exact h1 g hg
  · rw [vApp_L]
    by_cases e : g = f
    · rw [if_pos e, e, e4]
    · rw [if_neg e, (e1 g e hg).1]; exact h2 g hg
  · rw [vApp_L, vApp_C]
    by_cases e : g = f
    · rw [if_pos e, np_1, if_neg (by omega), e, e3]
      by_cases e0 : vL v f / 8 = 0
      · rw [if_pos e0, if_pos ⟨rfl, e0.symm⟩]
      · rw [if_neg e0, if_neg (fun z => e0 z.2.symm), h3 f hf, if_neg (by omega)]
    · rw [if_neg e, if_neg (c := g = f ∧ 0 = vL v f / 8) (fun z => e z.1), (e1 g e hg).1]; exact h3 g hg
  · by_cases e : g = f
    · rw [e, e5]
      show _ = nI (fu (vW v) f p f)
      rw [fu_s]
    · rw [(e1 g e hg).1, h4 g hg]
      show _ = nI (fu (vW v) f p g)
      rw [fu_n e]
  · by_cases e : g = f
    · rw [e, e7]
      exact (fu_s ..).symm
    · have w1 : vW (vApp v f p b) g = vW v g := fu_n e ..
      have w2 : vB (vApp v f p b) g = vB v g := fu_n e ..
      rw [w1] at hw
      rw [w2, (e1 g e hg).2]; exact h5 g hg hw
  · by_cases e : g = f
    · rw [e, e6]
      show _ = bI (fu (vG v) f true f)
      rw [fu_s]; rfl
    · rw [(e1 g e hg).1, h6 g hg]
      show _ = bI (fu (vG v) f true g)
      rw [fu_n e]
  · rw [vApp_L] at hi
    by_cases e : g = f
    · rw [if_pos e, np_1] at hi
      subst e
      rw [vApp_C, if_neg (fun z => by omega), vApp_C, e8]
      by_cases ei : i + 1 = vL v g / 8
      · rw [if_pos ⟨by omega, by rw [show vL v g / 8 - 1 = i by omega]⟩, if_pos ⟨rfl, ei⟩]
      · rw [if_neg (fun z => ?_), if_neg (fun z => ei z.2)]
        · exact h7 g hg i (by omega)
        · have := (inj g hg i (by omega) (vL v g / 8 - 1) (by omega) z.2).2
          omega
    · rw [if_neg e] at hi
      rw [vApp_C, if_neg (fun z => e z.1), vApp_C, if_neg (fun z => e z.1), e8, if_neg (fun z => ?_)]
      · exact h7 g hg i hi
      · exact e (inj g hg i (by omega) (vL v f / 8 - 1) (by omega) z.2).1
  · rw [e8, if_neg (fun z => ?_)]
    · refine h8 r hr (fun g hg i hi e => ?_)
      by_cases eg : g = f
      · subst eg
        refine hh g hg i ?_ ?_
        · rw [vApp_L, if_pos rfl, np_1]; omega
        · rw [vApp_C, if_neg (fun z => by omega)]; exact e
      · refine hh g hg i ?_ ?_
        · rw [vApp_L, if_neg eg]; exact hi
        · rw [vApp_C, if_neg (fun z => eg z.1)]; exact e
    · refine hh f hf (vL v f / 8 - 1) ?_ ?_
      · rw [vApp_L, if_pos rfl, np_1]; omega
      · rw [vApp_C, if_neg (fun y => by omega)]; exact z.2.symm
  · rw [e9]
    by_cases er : r = p
    · rw [if_pos er]
      exact ⟨fun _ => rfl, fun z => absurd ⟨f, hf, vL v f / 8, by rw [vApp_L, if_pos rfl, np_1]; omega, by rw [vApp_C, if_pos ⟨rfl, rfl⟩, er]⟩ z⟩
    · rw [if_neg er]
      have old : ∀ g, g < 8 → ∀ i, i < np (vL (vApp v f p b) g) → vC (vApp v f p b) g i = r → ¬ (g = f ∧ i = vL v f / 8) ∧ i < np (vL v g) ∧ vC v g i = r := fun g hg i hi e => by
        have hn : ¬ (g = f ∧ i = vL v f / 8) := fun z => by rw [vApp_C, if_pos z] at e; exact er e.symm
        obtain ⟨a, b⟩ := vApp_old hi hn
        exact ⟨hn, a, b.symm.trans e⟩
      by_cases e2 : vL v f % 8 ≠ 0 ∧ r = vC v f (vL v f / 8)
      · rw [if_pos e2]
        refine ⟨fun ⟨g, hg, i, hi, e⟩ => ?_, fun _ => rfl⟩
        obtain ⟨a, b, d⟩ := old g hg i hi e
        exact absurd (inj g hg i b (vL v f / 8) (by rw [np_n e2.1]; omega) (d.trans e2.2)) a
      · rw [if_neg e2]
        have us : used (vApp v f p b) r ↔ used v r := ⟨fun ⟨g, hg, i, hi, e⟩ => ⟨g, hg, i, (old g hg i hi e).2⟩, fun ⟨g, hg, i, hi, e⟩ => ⟨g, hg, i, by
          rw [vApp_L, vApp_C]
          by_cases eg : g = f
          · subst eg
            rw [if_pos rfl, np_1, if_neg (fun z => ?_)]
            · exact ⟨by omega, e⟩
            · refine e2 ⟨fun w => ?_, by rw [← z.2]; exact e.symm⟩
              rw [np_0 w] at hi
              omega
          · rw [if_neg eg, if_neg (fun z => eg z.1)]
            exact ⟨hi, e⟩⟩⟩
        rw [us]
        exact h9 r hr
  · rw [e10]; exact h10 r hr
theorem rmV.app (hv : vOK v) (h : rmV v I J) {f p : Nat} {b : Int64} (hf : f < 8) (hp0 : p ≠ 0)
    (e1 : I' 31 = I 31) (e2 : ∀ g, I' 32 g = if g = f then nI (vL v f + 1) else I 32 g) (e3 : ∀ k, I' 33 k = if k = 64 * f + vL v f / 8 then nI p else I 33 k) (e4 : ∀ g, I' 34 g = if g = f then nI p else I 34 g) (e5 : ∀ g, J' 35 g = if g = f then b else J 35 g) (e6 : ∀ g, I' 36 g = if g = f then 1 else I 36 g) (e7 : I' 37 = I 37) : rmV (vApp v f p b) I' J' := by
  obtain ⟨h1, h2, h3, h4, h5, h6, h7⟩ := h
  refine ⟨fun g hg => ?_, fun g hg => ?_, fun g hg i hi => ?_, fun g hg => ?_, fun g hg hw => ?_, fun g hg => ?_, fun r hr => ?_⟩
  · rw [e1]; exact h1 g hg
  · rw [e2, vApp_L]
    by_cases e : g = f
    · rw [if_pos e, if_pos e]
    · rw [if_neg e, if_neg e]; exact h2 g hg
  · have hl := hv.len hf
    by_cases e : g = f ∧ i = vL v f / 8
    · rw [vApp_C, if_pos e, e3, if_pos (by rw [e.1, e.2])]
    · obtain ⟨a, d⟩ := vApp_old hi e
      have := hv.pg hg
      rw [d, e3, if_neg (fun z => e (by omega))]
      exact h3 g hg i a
  · rw [e4]
    by_cases e : g = f
    · rw [if_pos e, e]
      show _ = if fu (vW v) f p f = 0 then (-1) else nI (fu (vW v) f p f)
      rw [fu_s, if_neg hp0]
    · rw [if_neg e, h4 g hg]
      show _ = if fu (vW v) f p g = 0 then (-1) else nI (fu (vW v) f p g)
      rw [fu_n e]
  · rw [e5]
    by_cases e : g = f
    · rw [if_pos e, e]; exact (fu_s ..).symm
    · have w1 : vW (vApp v f p b) g = vW v g := fu_n e ..
      have w2 : vB (vApp v f p b) g = vB v g := fu_n e ..
      rw [w1] at hw
      rw [if_neg e, w2]; exact h5 g hg hw
  · rw [e6]
    by_cases e : g = f
    · rw [if_pos e, e]
      show _ = bI (fu (vG v) f true f)
      rw [fu_s]; rfl
    · rw [if_neg e, h6 g hg]
      show _ = bI (fu (vG v) f true g)
      rw [fu_n e]
  · rw [e7]; exact h7 r hr
theorem s_D_pageAt2 {Q : Int32 → am_MI → am_MJ → Prop} {X : String → am_MI → am_MJ → Prop} (hv : vOK v) {f i : Nat} (hf : f < 8) (hi : i < np (vL v f)) (h1 : I (6 + f) 1 = nI (vC v f 0)) (hl : ∀ j, j + 1 < np (vL v f) → I 14 (vC v f j) = nI (vC v f (j + 1))) (hq : Q (nI (vC v f i)) I J) : w_D_pageAt f (nI i) I J Q X := by
  unfold w_D_pageAt w_D_pageAt_8
  have h61 := hv.pg hf
  intro P hP
  have key : ∀ n j, j + n = i → P (nI (vC v f j)) (nI j) I J := by
    intro n
    induction n with
    | zero =>
      intro j hj
      obtain rfl : j = i := by omega
      exact hP _ _ _ _ (br_t (nI_le (Nat.le_refl _) (by omega)) hq)
    | succ n ih =>
      intro j hj
      have hb := hv.2.1 f hf j (by omega)
      refine hP _ _ _ _ (br_f (nI_ge (by omega) (by omega)) ⟨vp_in_nI hb.2 (by omega), ?_⟩)
      rw [nI_clamp (by omega), hl j (by omega), nI_1]
      exact ih (j + 1) (by omega)
  rw [h1]
  exact key i 0 (by omega)
theorem s_D_putPageAt {Q : am_MI → am_MJ → Prop} {X : String → am_MI → am_MJ → Prop} (hv : vOK v) {f m : Nat} {x : Int32} (hf : f < 8) (hm : m ≤ np (vL v f)) (h1 : 0 < np (vL v f) → I (6 + f) 1 = nI (vC v f 0)) (hl : ∀ j, j + 1 < np (vL v f) → I 14 (vC v f j) = nI (vC v f (j + 1)))
    (hq : ∀ I', (∀ k, k ≠ 14 → k ≠ 6 + f → I' k = I k) → (∀ r, r ≠ 1 → I' (6 + f) r = I (6 + f) r) → (I' (6 + f) 1 = if m = 0 then x else I (6 + f) 1) → (∀ r, I' 14 r = if 0 < m ∧ r = vC v f (m - 1) then x else I 14 r) → Q I' J) : w_D_putPageAt f (nI m) x I J Q X := by
  unfold w_D_putPageAt
  have h61 := hv.pg hf
  have ez : nI m = 0 ↔ m = 0 := nI_eq (b := 0) (by omega) (by omega)
  rw [ez]
  refine ⟨fun hn0 => ?_, fun hn0 => ?_⟩
  · have e1 : nI m - 1 = nI (m - 1) := pk_sub (b := 1) (by omega)
    rw [e1]
    have hpb := hv.2.1 f hf (m - 1) (by omega)
    refine s_D_pageAt2 hv hf (by omega) (h1 (by omega)) hl ⟨vp_in_nI hpb.2 (by omega), ?_⟩
    rw [nI_clamp (by omega)]
    refine hq _ (fun k a b => pu_k a ..) (fun r a => by rw [pu_k (by omega)]) ?_ (fun p => ?_)
    · rw [pu_k (by omega), if_neg hn0]
    · by_cases e : p = vC v f (m - 1)
      · rw [if_pos ⟨by omega, e⟩, e, pu_s]
      · rw [if_neg (fun z => e z.2), pu_f e]
  · refine hq _ (fun k a b => pu_k b ..) (fun r a => pu_f a ..) ?_ (fun p => ?_)
    · rw [pu_s, if_pos hn0]
    · rw [if_neg (fun z => by omega), pu_k (by omega)]
/-- the class's last steps of an append -/
theorem s_B_app33 {Q : Int32 → am_MI → am_MJ → Prop} {X : String → am_MI → am_MJ → Prop} {I2 : am_MI} {J2 : am_MJ} {f p : Nat} {b : Int32} {x : Int64} (hv : vOK v) (hb : bS c v cur t q bd I J) (hf : f < 8) (hp : pgc v f p)
    (b1 : ∀ k, k ≠ 14 → k ≠ 15 → k ≠ 6 + f → I2 k = I k) (b2 : ∀ k, k ≠ 6 + f → J2 k = J k) (b3 : I2 (6 + f) 0 = I (6 + f) 0) (b4 : I2 (6 + f) 2 = I (6 + f) 2) (b5 : I2 (6 + f) 1 = if vL v f / 8 = 0 then nI p else I (6 + f) 1) (b6 : I2 (6 + f) 3 = nI p) (b7 : J2 (6 + f) 4 = x)
    (b8 : ∀ r, I2 14 r = if 0 < vL v f / 8 ∧ r = vC v f (vL v f / 8 - 1) then nI p else I 14 r) (b9 : ∀ r, I2 15 r = if r = p then 1 else if vL v f % 8 ≠ 0 ∧ r = vC v f (vL v f / 8) then 0 else I 15 r)
    (hq : ∀ I' J', bS c (vApp v f p (pt x (nI (vL v f % 8)) b)) cur t q bd I' J' → kM I J I' J' → Q (nI (vL v f + 1)) I' J') : w_B_append_33 b f (nI (vL v f % 8)) I2 J2 Q X := by
  unfold w_B_append_33 w_E_putIntoWindow
  have hc := hb.2.1
  dsimp only
  rw [pu_s, pu_f (by decide), b4, hc.2.1 f hf, nI_1, b7]
  generalize hE : am_ui (am_ui I2 (6 + f) 5 1) (6 + f) 2 (nI (vL v f + 1)) = E
  have kE : ∀ k, k ≠ 6 + f → E k = I2 k := fun k hk => by rw [← hE, pu_k hk, pu_k hk]
  have kj : ∀ k, k ≠ 6 + f → am_uj J2 (6 + f) 4 (pt x (nI (vL v f % 8)) b) k = J k := fun k hk => by rw [pj_k hk]; exact b2 k hk
  have kI : ∀ k, k ≠ 14 → k ≠ 15 → k ≠ 6 + f → E k = I k := fun k a b d => (kE k d).trans (b1 k a b d)
  have hf' : ∀ r, r ≠ 2 → r ≠ 5 → E (6 + f) r = I2 (6 + f) r := fun r a b => by rw [← hE, pu_f a, pu_f b]
  refine hq E (am_uj J2 (6 + f) 4 (pt x (nI (vL v f % 8)) b)) (hb.vw ?_ (kI 0 (by omega) (by omega) (by omega)) (kI 1 (by omega) (by omega) (by omega)) (kI 3 (by omega) (by omega) (by omega)) (kI 17 (by omega) (by omega) (by omega)) (kI 18 (by omega) (by omega) (by omega)) (kI 19 (by omega) (by omega) (by omega)) (kj 1 (by omega)) (kj 2 (by omega)) (kj 20 (by omega)) (kj 22 (by omega))) ⟨fun k hk => kI k (by omega) (by omega) (by omega), fun k hk => kj k (by omega)⟩
  refine hc.app hv hf hp (fun g a d => ⟨kI _ (by omega) (by omega) (by omega), kj _ (by omega)⟩) ?_ ?_ ?_ ?_ ?_ (pj_s ..) (fun r => ?_) (fun r => ?_) (kI 16 (by omega) (by omega) (by omega))
  · rw [hf' 0 (by decide) (by decide)]; exact b3
  · rw [hf' 1 (by decide) (by decide)]; exact b5
  · rw [← hE, pu_s]
  · rw [hf' 3 (by decide) (by decide)]; exact b6
  · rw [← hE, pu_f (by decide), pu_s]
  · rw [kE 14 (by omega)]; exact b8 r
  · rw [kE 15 (by omega)]; exact b9 r
/-- a new page behind the last -/
theorem s_B_new {Q : Int32 → am_MI → am_MJ → Prop} {X X1 X2 : String → am_MI → am_MJ → Prop} {f p : Nat} {b : Int32} (hv : vOK v) (hb : bS c v cur t q bd I J) (hf : f < 8) (h0 : vL v f % 8 = 0) (hp : pgc v f p)
    (hq : ∀ I' J', bS c (vApp v f p (pt 0 (nI (vL v f % 8)) b)) cur t q bd I' J' → kM I J I' J' → Q (nI (vL v f + 1)) I' J') : w_D_addPage f (nI p) I J (fun I7 J8 => w_E_openWindow f (nI p) 0 I7 J8 (fun I10 J11 => w_B_append_33 b f (nI (vL v f % 8)) I10 J11 Q X) X1) X2 := by
  unfold w_D_addPage
  have hc := hb.2.1
  have hl := hv.len hf
  have hpp := hp
  obtain ⟨p1, p2, p3⟩ := hp
  rw [hc.2.1 f hf]
  refine s_B_pagesFor (by omega) ?_
  refine s_D_putPageAt hv hf (Nat.le_refl _) (fun z => by rw [hc.2.2.1 f hf, if_neg (by omega)]) (hc.2.2.2.2.2.2.1 f hf) (fun I1 a1 a2 a3 a4 => ⟨vp_in_nI p2 (by omega), ?_⟩)
  rw [nI_clamp (by omega)]
  unfold w_E_openWindow
  rw [np_0 h0] at a3 a4
  generalize hE : am_ui (am_ui (am_ui I1 15 p (vp_nar .boolean 1)) (6 + f) 3 (nI p)) (6 + f) 5 0 = E
  have kE : ∀ k, k ≠ 15 → k ≠ 6 + f → E k = I1 k := fun k a b => by rw [← hE, pu_k b, pu_k b, pu_k a]
  have kf : ∀ r, r ≠ 3 → r ≠ 5 → E (6 + f) r = I1 (6 + f) r := fun r a b => by rw [← hE, pu_f b, pu_f a, pu_k (by omega)]
  refine s_B_app33 hv hb hf hpp (fun k a b d => ?_) (fun k d => pj_k d ..) ?_ ?_ ?_ ?_ (pj_s ..) (fun r => ?_) (fun r => ?_) hq
  · rw [kE k b d]; exact a1 k a d
  · rw [kf 0 (by decide) (by decide)]; exact a2 0 (by decide)
  · rw [kf 2 (by decide) (by decide)]; exact a2 2 (by decide)
  · rw [kf 1 (by decide) (by decide)]; exact a3
  · rw [← hE, pu_f (by decide), pu_s]
  · rw [kE 14 (by omega) (by omega)]; exact a4 r
  · rw [← hE, pu_k (by omega), pu_k (by omega)]
    by_cases e : r = p
    · rw [if_pos e, e, pu_s]; rfl
    · rw [if_neg e, pu_f e, if_neg (fun z => z.1 h0), a1 15 (by omega) (by omega)]
/-- the last page replaced -/
theorem s_B_repl {Q : Int32 → am_MI → am_MJ → Prop} {X X1 X2 : String → am_MI → am_MJ → Prop} {f p : Nat} {b : Int32} (hv : vOK v) (hb : bS c v cur t q bd I J) (hf : f < 8) (h0 : vL v f % 8 ≠ 0) (hp : pgc v f p) (hu : ¬ used v p) (hw : vW v f ≠ 0)
    (hq : ∀ I' J', bS c (vApp v f p (pt (vB v f) (nI (vL v f % 8)) b)) cur t q bd I' J' → kM I J I' J' → Q (nI (vL v f + 1)) I' J') : w_D_replaceLastPage f (nI p) I J (fun I15 J16 => w_E_openWindow f (nI p) (J16 (6 + f) 4) I15 J16 (fun I18 J19 => w_B_append_33 b f (nI (vL v f % 8)) I18 J19 Q X) X1) X2 := by
  unfold w_D_replaceLastPage
  have hc := hb.2.1
  have hl := hv.len hf
  have hpp := hp
  obtain ⟨p1, p2, p3⟩ := hp
  have hnp := np_n h0
  have hlast := hv.2.1 f hf (vL v f / 8) (by omega)
  rw [hc.2.1 f hf]
  refine s_B_pagesFor (by omega) ?_
  have e1 : nI (np (vL v f)) - 1 = nI (vL v f / 8) := by rw [hnp]; exact nI_pred _
  rw [e1]
  refine s_D_pageAt hv hc hf (by omega) ⟨vp_in_nI hlast.2 (by omega), ?_⟩
  rw [nI_clamp (by omega)]
  refine s_D_putPageAt hv hf (by omega) (fun z => by rw [pu_k (by omega), hc.2.2.1 f hf, if_neg (by omega)]) (fun j hj => by rw [pu_k (by omega)]; exact hc.2.2.2.2.2.2.1 f hf j hj) (fun I1 a1 a2 a3 a4 => ⟨vp_in_nI p2 (by omega), ?_⟩)
  rw [nI_clamp (by omega)]
  unfold w_E_openWindow
  dsimp only
  generalize hE : am_ui (am_ui (am_ui I1 15 p (vp_nar .boolean 1)) (6 + f) 3 (nI p)) (6 + f) 5 0 = E
  have kE : ∀ k, k ≠ 15 → k ≠ 6 + f → E k = I1 k := fun k a b => by rw [← hE, pu_k b, pu_k b, pu_k a]
  have kf : ∀ r, r ≠ 3 → r ≠ 5 → E (6 + f) r = I1 (6 + f) r := fun r a b => by rw [← hE, pu_f b, pu_f a, pu_k (by omega)]
  refine s_B_app33 hv hb hf hpp (fun k a b d => ?_) (fun k d => pj_k d ..) ?_ ?_ ?_ ?_ (by rw [pj_s]; exact hc.2.2.2.2.1 f hf hw) (fun r => ?_) (fun r => ?_) hq
  · rw [kE k b d, a1 k a d]; exact pu_k b ..
  · rw [kf 0 (by decide) (by decide), a2 0 (by decide), pu_k (by omega)]
  · rw [kf 2 (by decide) (by decide), a2 2 (by decide), pu_k (by omega)]
  · rw [kf 1 (by decide) (by decide), a3, pu_k (by omega)]
  · rw [← hE, pu_f (by decide), pu_s]
  · rw [kE 14 (by omega) (by omega), a4 r, pu_k (by omega)]
  · rw [← hE, pu_k (by omega), pu_k (by omega)]
    by_cases e : r = p
    · rw [if_pos e, e, pu_s]; rfl
    · rw [if_neg e, pu_f e, a1 15 (by omega) (by omega)]
      by_cases e2 : r = vC v f (vL v f / 8)
      · rw [if_pos ⟨h0, e2⟩, e2, pu_s]; rfl
      · rw [if_neg (fun z => e2 z.2), pu_f e2]
/-- the last page as it is -/
theorem s_B_same {Q : Int32 → am_MI → am_MJ → Prop} {X : String → am_MI → am_MJ → Prop} {f : Nat} {b : Int32} (hv : vOK v) (hb : bS c v cur t q bd I J) (hf : f < 8) (h0 : vL v f % 8 ≠ 0) (hp : pgc v f (vC v f (vL v f / 8))) (hw : vW v f = vC v f (vL v f / 8))
    (hq : ∀ I' J', bS c (vApp v f (vC v f (vL v f / 8)) (pt (vB v f) (nI (vL v f % 8)) b)) cur t q bd I' J' → kM I J I' J' → Q (nI (vL v f + 1)) I' J') : w_B_append_33 b f (nI (vL v f % 8)) I J Q X := by
  have hc := hb.2.1
  have hnp := np_n h0
  have hp1 := hp.1
  refine s_B_app33 hv hb hf hp (fun _ _ _ _ => rfl) (fun _ _ => rfl) rfl rfl ?_ ?_ (hc.2.2.2.2.1 f hf (by omega)) (fun r => ?_) (fun r => ?_) hq
  · by_cases e : vL v f / 8 = 0
    · rw [if_pos e, hc.2.2.1 f hf, if_neg (by omega), e]
    · rw [if_neg e]
  · rw [hc.2.2.2.1 f hf, hw]
  · by_cases e : 0 < vL v f / 8 ∧ r = vC v f (vL v f / 8 - 1)
    · rw [if_pos e, e.2, hc.2.2.2.2.2.2.1 f hf _ (by omega), show vL v f / 8 - 1 + 1 = vL v f / 8 by omega]
    · rw [if_neg e]
  · by_cases e : r = vC v f (vL v f / 8)
    · rw [if_pos e, e]
      exact (hc.2.2.2.2.2.2.2.2.1 _ hp.2.1).1 ⟨f, hf, _, by omega, rfl⟩
    · rw [if_neg e, if_neg (fun z => e z.2)]
/-- the reference's last steps -/
theorem s_M_app206 {Q : Int32 → am_MI → am_MJ → Prop} {X : String → am_MI → am_MJ → Prop} {I2 : am_MI} {J2 : am_MJ} {f p : Nat} {b : Int32} {x : Int64} (hv : vOK v) (hm : mS c v cur t q bd I J) (hf : f < 8) (hp0 : p ≠ 0)
    (b1 : ∀ k, k ≠ 33 → k ≠ 34 → I2 k = I k) (b2 : ∀ k, k ≠ 35 → J2 k = J k) (b3 : ∀ k, I2 33 k = if k = 64 * f + vL v f / 8 then nI p else I 33 k) (b4 : ∀ g, I2 34 g = if g = f then nI p else I 34 g) (b5 : J2 35 f = x) (b6 : ∀ g, g ≠ f → J2 35 g = J 35 g)
    (hq : ∀ I' J', mS c (vApp v f p (pt x (nI (vL v f % 8)) b)) cur t q bd I' J' → (∀ k, k ≠ 32 → k ≠ 33 → k ≠ 34 → k ≠ 36 → I' k = I k) → (∀ k, k ≠ 35 → J' k = J k) → Q (nI (vL v f + 1)) I' J') : w_M_append_206 (nI f) b I2 J2 Q X := by
  unfold w_M_append_206
  have hc := hm.2.1
  have hl := hv.len hf
  have hin : vp_in (nI f) 8 := vp_in_nI hf (by omega)
  have er : nI (vL v f) - nI (vL v f) / 8 * 8 = nI (vL v f % 8) := pk_rem (d := 8) (by omega) (by omega) (by omega)
  have e32 : I2 32 f = nI (vL v f) := by rw [b1 32 (by decide) (by decide)]; exact hc.2.1 f hf
  rw [nI_clamp (by omega), pu_s, pu_k (by decide), e32, er, nI_1, b5]
  refine ⟨hin, hin, hin, hin, hin, hin, hin, ?_⟩
  have k1 : ∀ k, k ≠ 32 → k ≠ 36 → am_ui (am_ui I2 36 f (vp_nar .boolean 1)) 32 f (nI (vL v f + 1)) k = I2 k := fun k a b => by rw [pu_k a, pu_k b]
  have k2 : ∀ k, k ≠ 32 → k ≠ 33 → k ≠ 34 → k ≠ 36 → am_ui (am_ui I2 36 f (vp_nar .boolean 1)) 32 f (nI (vL v f + 1)) k = I k := fun k a b d e => (k1 k a e).trans (b1 k b d)
  have j1 : ∀ k, k ≠ 35 → am_uj J2 35 f (pt x (nI (vL v f % 8)) b) k = J k := fun k a => by rw [pj_k a]; exact b2 k a
  refine hq _ (am_uj J2 35 f (pt x (nI (vL v f % 8)) b)) (hm.vw (hc.app hv hf hp0 ?_ (fun g => ?_) (fun k => ?_) (fun g => ?_) (fun g => ?_) (fun g => ?_) ?_) (k2 28 (by decide) (by decide) (by decide) (by decide)) (k2 29 (by decide) (by decide) (by decide) (by decide)) (k2 40 (by decide) (by decide) (by decide) (by decide)) (k2 41 (by decide) (by decide) (by decide) (by decide)) (j1 28 (by decide)) (j1 30 (by decide)) (j1 42 (by decide)) (j1 44 (by decide))) k2 j1
  · exact k2 31 (by decide) (by decide) (by decide) (by decide)
  · by_cases e : g = f
    · rw [if_pos e, e, pu_s]
    · rw [if_neg e, pu_f e, pu_k (by decide), b1 32 (by decide) (by decide)]
  · rw [k1 33 (by decide) (by decide)]; exact b3 k
  · rw [k1 34 (by decide) (by decide)]; exact b4 g
  · by_cases e : g = f
    · rw [if_pos e, e, pj_s]
    · rw [if_neg e, pj_f e]; exact b6 g e
  · rw [pu_k (by decide)]
    by_cases e : g = f
    · rw [if_pos e, e, pu_s]; rfl
    · rw [if_neg e, pu_f e, b1 36 (by decide) (by decide)]
  · exact k2 37 (by decide) (by decide) (by decide) (by decide)
end
end PU11
