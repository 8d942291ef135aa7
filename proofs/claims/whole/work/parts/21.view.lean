section PU1
/-! the files as both sides see them -/
/-- names, lengths, chains, windows' pages (0: none), windows' bits, changed, held -/
abbrev VT : Type := (Nat → Int32) × (Nat → Nat) × (Nat → Nat → Nat) × (Nat → Nat) × (Nat → Int64) × (Nat → Bool) × (Nat → Bool)
abbrev vN (v : VT) : Nat → Int32 := v.1
abbrev vL (v : VT) : Nat → Nat := v.2.1
abbrev vC (v : VT) : Nat → Nat → Nat := v.2.2.1
abbrev vW (v : VT) : Nat → Nat := v.2.2.2.1
abbrev vB (v : VT) : Nat → Int64 := v.2.2.2.2.1
abbrev vG (v : VT) : Nat → Bool := v.2.2.2.2.2.1
abbrev vH (v : VT) : Nat → Bool := v.2.2.2.2.2.2
def np (n : Nat) : Nat := (n + 7) / 8
def bI (b : Bool) : Int32 := if b then 1 else 0
def used (v : VT) (p : Nat) : Prop := ∃ f, f < 8 ∧ ∃ i, i < np (vL v f) ∧ vC v f i = p
def fre (v : VT) (p : Nat) : Prop := 40 ≤ p ∧ ¬ used v p ∧ vH v p = false
def vOK (v : VT) : Prop := (∀ f, f < 8 → vN v f = 0 → vL v f = 0) ∧ (∀ f, f < 8 → ∀ i, i < np (vL v f) → 40 ≤ vC v f i ∧ vC v f i < 101) ∧
  (∀ f, f < 8 → ∀ g, g < 8 → ∀ i, i < np (vL v f) → ∀ j, j < np (vL v g) → vC v f i = vC v g j → f = g ∧ i = j) ∧
  (∀ f, f < 8 → vW v f ≠ 0 → ∃ i, i < np (vL v f) ∧ vC v f i = vW v f) ∧ ∀ f, f < 8 → vG v f = true → vW v f ≠ 0
/-- the class's files -/
def rcV (v : VT) (I : am_MI) (J : am_MJ) : Prop := (∀ f, f < 8 → I (6 + f) 0 = vN v f) ∧ (∀ f, f < 8 → I (6 + f) 2 = nI (vL v f)) ∧ (∀ f, f < 8 → I (6 + f) 1 = nI (if np (vL v f) = 0 then 0 else vC v f 0)) ∧
  (∀ f, f < 8 → I (6 + f) 3 = nI (vW v f)) ∧ (∀ f, f < 8 → vW v f ≠ 0 → J (6 + f) 4 = vB v f) ∧ (∀ f, f < 8 → I (6 + f) 5 = bI (vG v f)) ∧
  (∀ f, f < 8 → ∀ i, i + 1 < np (vL v f) → I 14 (vC v f i) = nI (vC v f (i + 1))) ∧ (∀ p, p < 101 → (∀ f, f < 8 → ∀ i, i + 1 < np (vL v f) → vC v f i ≠ p) → I 14 p = 0) ∧
  (∀ p, p < 101 → (used v p → I 15 p = 1) ∧ (¬ used v p → I 15 p = 0)) ∧ ∀ p, p < 101 → I 16 p = bI (vH v p)
/-- the reference's files -/
def rmV (v : VT) (I : am_MI) (J : am_MJ) : Prop := (∀ f, f < 8 → I 31 f = vN v f) ∧ (∀ f, f < 8 → I 32 f = nI (vL v f)) ∧ (∀ f, f < 8 → ∀ i, i < np (vL v f) → I 33 (64 * f + i) = nI (vC v f i)) ∧
  (∀ f, f < 8 → I 34 f = if vW v f = 0 then (-1) else nI (vW v f)) ∧ (∀ f, f < 8 → vW v f ≠ 0 → J 35 f = vB v f) ∧ (∀ f, f < 8 → I 36 f = bI (vG v f)) ∧ ∀ p, p < 101 → I 37 p = bI (vH v p)
/-- cells from a to b are the same -/
def eqI (a b : Nat) (I I' : am_MI) : Prop := ∀ k, a ≤ k → k < b → I' k = I k
def eqJ (a b : Nat) (J J' : am_MJ) : Prop := ∀ k, a ≤ k → k < b → J' k = J k
theorem rcV.mv {v : VT} {I I' : am_MI} {J J' : am_MJ} (h : rcV v I J) (hI : eqI 6 17 I I') (hJ : eqJ 6 14 J J') : rcV v I' J' := by
  obtain ⟨h1, h2, h3, h4, h5, h6, h7, h8, h9, h10⟩ := h
  refine ⟨fun f hf => ?_, fun f hf => ?_, fun f hf => ?_, fun f hf => ?_, fun f hf hw => ?_, fun f hf => ?_, fun f hf i hi => ?_, fun p hp hn => ?_, fun p hp => ?_, fun p hp => ?_⟩
  · rw [hI (6 + f) (by omega) (by omega)]; exact h1 f hf
  · rw [hI (6 + f) (by omega) (by omega)]; exact h2 f hf
  · rw [hI (6 + f) (by omega) (by omega)]; exact h3 f hf
  · rw [hI (6 + f) (by omega) (by omega)]; exact h4 f hf
  · rw [hJ (6 + f) (by omega) (by omega)]; exact h5 f hf hw
  · rw [hI (6 + f) (by omega) (by omega)]; exact h6 f hf
  · rw [hI 14 (by omega) (by omega)]; exact h7 f hf i hi
  · rw [hI 14 (by omega) (by omega)]; exact h8 p hp hn
  · rw [hI 15 (by omega) (by omega)]; exact h9 p hp
  · rw [hI 16 (by omega) (by omega)]; exact h10 p hp
theorem rmV.mv {v : VT} {I I' : am_MI} {J J' : am_MJ} (h : rmV v I J) (hI : eqI 31 38 I I') (hJ : eqJ 35 36 J J') : rmV v I' J' := by
  obtain ⟨h1, h2, h3, h4, h5, h6, h7⟩ := h
  refine ⟨fun f hf => ?_, fun f hf => ?_, fun f hf i hi => ?_, fun f hf => ?_, fun f hf hw => ?_, fun f hf => ?_, fun p hp => ?_⟩
  · rw [hI 31 (by omega) (by omega)]; exact h1 f hf
  · rw [hI 32 (by omega) (by omega)]; exact h2 f hf
  · rw [hI 33 (by omega) (by omega)]; exact h3 f hf i hi
  · rw [hI 34 (by omega) (by omega)]; exact h4 f hf
  · rw [hJ 35 (by omega) (by omega)]; exact h5 f hf hw
  · rw [hI 36 (by omega) (by omega)]; exact h6 f hf
  · rw [hI 37 (by omega) (by omega)]; exact h7 p hp
/-- no more pigeons than holes -/
theorem pigeon : ∀ (m n : Nat) (g : Nat → Nat), (∀ i, i < n → g i < m) → (∀ i, i < n → ∀ j, j < n → g i = g j → i = j) → n ≤ m := by
  intro m
  induction m with
  | zero =>
    intro n g h _
    match n with
    | 0 => omega
    | n + 1 => exact absurd (h 0 (by omega)) (by omega)
  | succ m ih =>
    intro n g h hi
    match n with
    | 0 => omega
    | n + 1 =>
      by_cases hx : ∃ i, i < n + 1 ∧ g i = m
      · obtain ⟨a, ha, hga⟩ := hx
        have := ih n (fun i => if i < a then g i else g (i + 1)) (fun i hin => by
            split
            · have h1 := h i (by omega)
              have : g i ≠ m := fun e => by have := hi i (by omega) a ha (e.trans hga.symm); omega
              omega
            · have h1 := h (i + 1) (by omega)
              have : g (i + 1) ≠ m := fun e => by have := hi (i + 1) (by omega) a ha (e.trans hga.symm); omega
              omega)
          (fun i hin j hjn e => by
            split at e <;> split at e
            · exact hi i (by omega) j (by omega) e
            · have := hi i (by omega) (j + 1) (by omega) e; omega
            · have := hi (i + 1) (by omega) j (by omega) e; omega
            · have := hi (i + 1) (by omega) (j + 1) (by omega) e; omega)
        omega
      · have := ih (n + 1) g (fun i hin => by
            have h1 := h i hin
            have : g i ≠ m := fun e => hx ⟨i, hin, e⟩
            omega) hi
        omega
theorem vOK.pg {v : VT} (h : vOK v) {f : Nat} (hf : f < 8) : np (vL v f) ≤ 61 := by
  obtain ⟨-, h2, h3, -, -⟩ := h
  refine pigeon 61 (np (vL v f)) (fun i => vC v f i - 40) (fun i hi => ?_) (fun i hi j hj e => ?_)
  · have := h2 f hf i hi
    show vC v f i - 40 < 61
    omega
  · have a := h2 f hf i hi
    have b := h2 f hf j hj
    exact (h3 f hf f hf i hi j hj (by omega)).2
theorem vOK.len {v : VT} (h : vOK v) {f : Nat} (hf : f < 8) : vL v f ≤ 488 := by
  have := h.pg hf
  unfold np at this
  omega
theorem pk_div8 {n : Nat} (h : n < 2 ^ 30) : (nI n + 7) / 8 = nI (np n) := by
  rw [show (7 : Int32) = nI 7 from rfl, show (8 : Int32) = nI 8 from rfl, nI_add, pk_div (by omega) (by omega) (by omega)]
  rfl
theorem s_B_pagesFor {I : am_MI} {J : am_MJ} {Q : Int32 → am_MI → am_MJ → Prop} {X : String → am_MI → am_MJ → Prop} {n : Nat} (h : n < 2 ^ 30) (hq : Q (nI (np n)) I J) : w_B_pagesFor (nI n) I J Q X := by
  unfold w_B_pagesFor
  rw [show (8 : Int32) = nI 8 from rfl, show (1 : Int32) = nI 1 from rfl, nI_add, pk_sub (by omega), pk_div (by omega) (by omega) (by omega)]
  exact hq
theorem s_M_pages {v : VT} {I : am_MI} {J : am_MJ} {Q : Int32 → am_MI → am_MJ → Prop} {X : String → am_MI → am_MJ → Prop} {f : Nat} (hv : vOK v) (hm : rmV v I J) (hf : f < 8) (hq : Q (nI (np (vL v f))) I J) : w_M_pages (nI f) I J Q X := by
  unfold w_M_pages
  refine ⟨vp_in_nI hf (by omega), ?_⟩
  rw [nI_clamp (by omega), hm.2.1 f hf, pk_div8 (by have := hv.len hf; omega)]
  exact hq
theorem bI0 (b : Bool) : bI b = 0 ↔ b = false := by cases b <;> simp [bI]
theorem s_D_isFree {v : VT} {I : am_MI} {J : am_MJ} {Q : Int32 → am_MI → am_MJ → Prop} {X : String → am_MI → am_MJ → Prop} {p : Nat} (hc : rcV v I J) (hp : p < 101) (h1 : fre v p → Q 1 I J) (h0 : ¬ fre v p → Q 0 I J) : w_D_isFree (nI p) I J Q X := by
  obtain ⟨-, -, -, -, -, -, -, -, h9, h10⟩ := hc
  unfold w_D_isFree
  have e1 : nI p < 40 ↔ p < 40 := nI_ltI (b := 40) (by omega) (by omega)
  rw [e1, nI_clamp (by omega), h10 p hp]
  refine ⟨fun h => h0 (fun z => by have := z.1; omega), fun h => ⟨vp_in_nI hp (by omega), fun h2 => h0 (fun z => h2 ((h9 p hp).2 z.2.1)), fun h2 => ⟨vp_in_nI hp (by omega), fun h3 => h0 (fun z => h3 ((bI0 _).mpr z.2.2)), fun h3 => h1 ⟨by omega, fun z => ?_, (bI0 _).mp h3⟩⟩⟩⟩
  rw [(h9 p hp).1 z] at h2
  exact absurd h2 (by decide)
theorem s_D_leastFree {v : VT} {I : am_MI} {J : am_MJ} {Q : Int32 → am_MI → am_MJ → Prop} {X : String → am_MI → am_MJ → Prop} (hc : rcV v I J) (h1 : ∀ p, p < 101 → fre v p → (∀ q, q < p → ¬ fre v q) → Q (nI p) I J) (h0 : (∀ q, q < 101 → ¬ fre v q) → Q (-1) I J) : w_D_leastFree I J Q X := by
  unfold w_D_leastFree w_D_leastFree_3
  intro P hP
  have key : ∀ n p, p + n = 101 → (∀ q, q < p → ¬ fre v q) → P (nI p) I J := by
    intro n
    induction n with
    | zero =>
      intro p hp hn
      obtain rfl : p = 101 := by omega
      exact hP _ _ _ (br_t (nI_le (a := 101) (by omega) (by omega)) (h0 hn))
    | succ n ih =>
      intro p hp hn
      refine hP _ _ _ (br_f (nI_ge (b := 101) (by omega) (by omega)) ?_)
      refine s_D_isFree hc (by omega) (fun hf => ⟨fun h => absurd h (by decide), fun _ => h1 p (by omega) hf hn⟩) (fun hf => ⟨fun _ => ?_, fun h => absurd rfl h⟩)
      rw [nI_1]
      exact ih (p + 1) (by omega) (fun q hq => by
        by_cases e : q = p
        · rw [e]; exact hf
        · exact hn q (by omega))
  exact key 61 40 (by omega) (fun q hq z => by have := z.1; omega)
/-- how many below n -/
noncomputable def cnt (P : Nat → Prop) : Nat → Nat
  | 0 => 0
  | n + 1 => @ite Nat (P n) (Classical.propDecidable (P n)) (cnt P n + 1) (cnt P n)
theorem cnt_t {P : Nat → Prop} {n : Nat} (h : P n) : cnt P (n + 1) = cnt P n + 1 := by
  show @ite Nat (P n) (Classical.propDecidable (P n)) _ _ = _
  exact @if_pos _ (Classical.propDecidable (P n)) h _ _ _
theorem cnt_f {P : Nat → Prop} {n : Nat} (h : ¬ P n) : cnt P (n + 1) = cnt P n := by
  show @ite Nat (P n) (Classical.propDecidable (P n)) _ _ = _
  exact @if_neg _ (Classical.propDecidable (P n)) h _ _ _
theorem cnt_0 {P : Nat → Prop} : ∀ n, (∀ q, q < n → ¬ P q) → cnt P n = 0 := by
  intro n
  induction n with
  | zero => intro _; rfl
  | succ n ih => intro h; rw [cnt_f (h n (by omega))]; exact ih (fun q hq => h q (by omega))
theorem s_D_countFree {v : VT} {I : am_MI} {J : am_MJ} {Q : Int32 → am_MI → am_MJ → Prop} {X : String → am_MI → am_MJ → Prop} (hc : rcV v I J) (hq : Q (nI (cnt (fre v) 101)) I J) : w_D_countFree I J Q X := by
  unfold w_D_countFree w_D_countFree_5
  intro P hP
  have key : ∀ n p, p + n = 101 → P (nI (cnt (fre v) p)) (nI p) I J := by
    intro n
    induction n with
    | zero =>
      intro p hp
      obtain rfl : p = 101 := by omega
      exact hP _ _ _ _ (br_t (nI_le (a := 101) (by omega) (by omega)) hq)
    | succ n ih =>
      intro p hp
      refine hP _ _ _ _ (br_f (nI_ge (b := 101) (by omega) (by omega)) ?_)
      have h := ih (p + 1) (by omega)
      refine s_D_isFree hc (by omega) (fun hf => ⟨fun h => absurd h (by decide), fun _ => ?_⟩) (fun hf => ⟨fun _ => ?_, fun h => absurd rfl h⟩)
      · rw [cnt_t hf] at h
        rw [nI_1, nI_1]
        exact h
      · rw [cnt_f hf] at h
        rw [nI_1]
        exact h
  have h := key 61 40 (by omega)
  rw [cnt_0 40 (fun q hq z => by have := z.1; omega)] at h
  exact h
theorem s_D_pageAt {v : VT} {I : am_MI} {J : am_MJ} {Q : Int32 → am_MI → am_MJ → Prop} {X : String → am_MI → am_MJ → Prop} (hv : vOK v) (hc : rcV v I J) {f i : Nat} (hf : f < 8) (hi : i < np (vL v f)) (hq : Q (nI (vC v f i)) I J) : w_D_pageAt f (nI i) I J Q X := by
  unfold w_D_pageAt w_D_pageAt_8
  have h61 := hv.pg hf
  intro P hP
  have key : ∀ n j, j + n = i → P (nI (vC v f j)) (nI j) I J := by
    intro n
    induction n with
    | zero =>
      intro j hj
      obtain rfl : j = i := by omega
      exact hP _ _ _ _ (br_t (nI_le (Nat.le_refl _) (by omega)) hq)
    | succ n ih =>
      intro j hj
      have hb := hv.2.1 f hf j (by omega)
      refine hP _ _ _ _ (br_f (nI_ge (by omega) (by omega)) ⟨vp_in_nI hb.2 (by omega), ?_⟩)
      rw [nI_clamp (by omega), hc.2.2.2.2.2.2.1 f hf j (by omega), nI_1]
      exact ih (j + 1) (by omega)
  have h := key i 0 (by omega)
  rw [hc.2.2.1 f hf, if_neg (by omega)]
  exact h
theorem s_D_numberOf {v : VT} {I : am_MI} {J : am_MJ} {Q : Int32 → am_MI → am_MJ → Prop} {X : String → am_MI → am_MJ → Prop} (hc : rcV v I J) {a : Int32} (h1 : ∀ f, f < 8 → vN v f = a → (∀ g, g < f → vN v g ≠ a) → Q (nI f) I J) (h0 : (∀ f, f < 8 → vN v f ≠ a) → Q (-1) I J) : w_D_numberOf a I J Q X := by
  unfold w_D_numberOf w_D_numberOf_2
  intro P hP
  have key : ∀ n f, f + n = 8 → (∀ g, g < f → vN v g ≠ a) → P (nI f) I J := by
    intro n
    induction n with
    | zero =>
      intro f hf hn
      obtain rfl : f = 8 := by omega
      exact hP _ _ _ (br_t (nI_le (a := 8) (by omega) (by omega)) (h0 hn))
    | succ n ih =>
      intro f hf hn
      refine hP _ _ _ (br_f (nI_ge (b := 8) (by omega) (by omega)) ⟨vp_in_nI (by omega) (by omega), ?_⟩)
      rw [nI_clamp (by omega), hc.1 f (by omega), nI_1]
      refine ⟨fun h => ih (f + 1) (by omega) (fun g hg => ?_), fun h => h1 f (by omega) h hn⟩
      by_cases e : g = f
      · rw [e]; exact h
      · exact hn g (by omega)
  exact key 8 0 (by omega) (fun g hg => absurd hg (by omega))
end PU1
