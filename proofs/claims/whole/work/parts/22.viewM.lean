section PU2
theorem nI_neg1 {n : Nat} (h : n < 2 ^ 31) : ¬ nI n = -1 := fun e => by
  have h1 := nI_toInt h
  rw [e] at h1
  have h2 : (-1 : Int32).toInt = -1 := by decide
  rw [h2] at h1
  omega
theorem pk_64 {f i : Nat} : (64 : Int32) * nI f + nI i = nI (64 * f + i) := by
  rw [show (64 : Int32) = nI 64 from rfl, pk_mul, nI_add]
theorem s_M_isUsed {v : VT} {I : am_MI} {J : am_MJ} {Q : Int32 → am_MI → am_MJ → Prop} {X : String → am_MI → am_MJ → Prop} {p : Nat} (hv : vOK v) (hm : rmV v I J) (hp : p < 2 ^ 30) (h1 : used v p → Q 1 I J) (h0 : ¬ used v p → Q 0 I J) : w_M_isUsed (nI p) I J Q X := by
  unfold w_M_isUsed w_M_isUsed_4
  intro P hP
  have key : ∀ n f (x : Int32), f + n = 8 → (x = 1 ∧ used v p ∨ x = 0 ∧ ∀ g, g < f → ∀ i, i < np (vL v g) → vC v g i ≠ p) → P x (nI f) I J := by
    intro n
    induction n with
    | zero =>
      intro f x hf hx
      obtain rfl : f = 8 := by omega
      refine hP _ _ _ _ (br_t (nI_le (a := 8) (by omega) (by omega)) ?_)
      rcases hx with ⟨rfl, h⟩ | ⟨rfl, h⟩
      · exact ⟨Or.inr rfl, h1 h⟩
      · exact ⟨Or.inl rfl, h0 (fun ⟨g, hg, i, hi, e⟩ => h g hg i hi e)⟩
    | succ n ih =>
      intro f x hf hx
      have h61 := hv.pg (f := f) (by omega)
      refine hP _ _ _ _ (br_f (nI_ge (b := 8) (by omega) (by omega)) ?_)
      unfold w_M_isUsed_13
      intro P2 hP2
      have key2 : ∀ m i (x : Int32), i + m = np (vL v f) → (x = 1 ∧ used v p ∨ x = 0 ∧ (∀ g, g < f → ∀ i, i < np (vL v g) → vC v g i ≠ p) ∧ ∀ j, j < i → vC v f j ≠ p) → P2 x (nI i) I J := by
        intro m
        induction m with
        | zero =>
          intro i x hi hx
          refine hP2 _ _ _ _ (s_M_pages hv hm (by omega) (br_t (nI_le (by omega) (by omega)) ?_))
          rw [nI_1]
          refine ih (f + 1) x (by omega) (hx.imp id (fun ⟨e, a, b⟩ => ⟨e, fun g hg j hj => ?_⟩))
          by_cases eg : g = f
          · subst eg
            exact b j (by omega)
          · exact a g (by omega) j hj
        | succ m ihm =>
          intro i x hi hx
          refine hP2 _ _ _ _ (s_M_pages hv hm (by omega) (br_f (nI_ge (by omega) (by omega)) ?_))
          rw [nI_1]
          rcases hx with ⟨rfl, hu⟩ | ⟨rfl, a, b⟩
          · exact ⟨fun _ => ihm (i + 1) 1 (by omega) (Or.inl ⟨rfl, hu⟩), fun h => absurd h (by decide)⟩
          · refine ⟨fun h => absurd rfl h, fun _ => ?_⟩
            rw [pk_64]
            have hb := hv.2.1 f (by omega) i (by omega)
            refine ⟨vp_in_nI (by omega) (by omega), ?_⟩
            rw [nI_clamp (by omega), hm.2.2.1 f (by omega) i (by omega)]
            have e := nI_eq (a := vC v f i) (b := p) (by omega) (by omega)
            refine ⟨fun h => ihm (i + 1) 0 (by omega) (Or.inr ⟨rfl, a, fun j hj => ?_⟩), fun h => ihm (i + 1) 1 (by omega) (Or.inl ⟨rfl, f, by omega, i, by omega, e.mp h⟩)⟩
            by_cases ej : j = i
            · rw [ej]; exact fun z => h (e.mpr z)
            · exact b j (by omega)
      exact key2 (np (vL v f)) 0 x (by omega) (hx.imp id (fun ⟨e, a⟩ => ⟨e, a, fun j hj => absurd hj (by omega)⟩))
  exact key 8 0 0 (by omega) (Or.inr ⟨rfl, fun g hg => absurd hg (by omega)⟩)
theorem s_M_isFree {v : VT} {I : am_MI} {J : am_MJ} {Q : Int32 → am_MI → am_MJ → Prop} {X : String → am_MI → am_MJ → Prop} {p : Nat} (hv : vOK v) (hm : rmV v I J) (hp : p < 101) (h1 : fre v p → Q 1 I J) (h0 : ¬ fre v p → Q 0 I J) : w_M_isFree (nI p) I J Q X := by
  unfold w_M_isFree
  have e1 : nI p ≤ 39 ↔ p ≤ 39 := nI_leI (b := 39) (by omega) (by omega)
  rw [e1]
  refine ⟨fun h => h0 (fun z => by have := z.1; omega), fun h => s_M_isUsed hv hm (by omega) (fun hu => ⟨fun _ => h0 (fun z => z.2.1 hu), fun z => absurd z (by decide)⟩) (fun hu => ⟨fun z => absurd rfl z, fun _ => ⟨vp_in_nI hp (by omega), ?_⟩⟩)⟩
  rw [nI_clamp (by omega), hm.2.2.2.2.2.2 p hp]
  exact ⟨fun h3 => h0 (fun z => h3 ((bI0 _).mpr z.2.2)), fun h3 => h1 ⟨by omega, hu, (bI0 _).mp h3⟩⟩
theorem s_M_leastFree {v : VT} {I : am_MI} {J : am_MJ} {Q : Int32 → am_MI → am_MJ → Prop} {X : String → am_MI → am_MJ → Prop} (hv : vOK v) (hm : rmV v I J) (h1 : ∀ p, p < 101 → fre v p → (∀ q, q < p → ¬ fre v q) → Q (nI p) I J) (h0 : (∀ q, q < 101 → ¬ fre v q) → Q (-1) I J) : w_M_leastFree I J Q X := by
  unfold w_M_leastFree w_M_leastFree_3
  intro P hP
  have key : ∀ n p, p + n = 101 → (∀ q, q < p → ¬ fre v q) → P (nI p) I J := by
    intro n
    induction n with
    | zero =>
      intro p hp hn
      obtain rfl : p = 101 := by omega
      exact hP _ _ _ (br_t (nI_le (a := 101) (by omega) (by omega)) (h0 hn))
    | succ n ih =>
      intro p hp hn
      refine hP _ _ _ (br_f (nI_ge (b := 101) (by omega) (by omega)) ?_)
      refine s_M_isFree hv hm (by omega) (fun hf => ⟨fun h => absurd h (by decide), fun _ => h1 p (by omega) hf hn⟩) (fun hf => ⟨fun _ => ?_, fun h => absurd rfl h⟩)
      rw [nI_1]
      exact ih (p + 1) (by omega) (fun q hq => by
        by_cases e : q = p
        · rw [e]; exact hf
        · exact hn q (by omega))
  exact key 61 40 (by omega) (fun q hq z => by have := z.1; omega)
theorem s_M_free_20 {v : VT} {I : am_MI} {J : am_MJ} {Q : Int32 → am_MI → am_MJ → Prop} {X : String → am_MI → am_MJ → Prop} (hv : vOK v) (hm : rmV v I J) (hcode : I 28 0 = 0) (hq : Q (nI (cnt (fre v) 101)) I J) : w_M_free_20 0 0 I J Q X := by
  unfold w_M_free_20
  intro P hP
  have key : ∀ n p, p + n = 101 → P (nI (cnt (fre v) p)) (nI p) I J := by
    intro n
    induction n with
    | zero =>
      intro p hp
      obtain rfl : p = 101 := by omega
      exact hP _ _ _ _ (br_t (nI_le (a := 101) (by omega) (by omega)) hq)
    | succ n ih =>
      intro p hp
      refine hP _ _ _ _ (br_f (nI_ge (b := 101) (by omega) (by omega)) ⟨fun h => absurd hcode h, fun _ => ?_⟩)
      have h := ih (p + 1) (by omega)
      refine s_M_isFree hv hm (by omega) (fun hf => ⟨fun h => absurd h (by decide), fun _ => ?_⟩) (fun hf => ⟨fun _ => ?_, fun h => absurd rfl h⟩)
      · rw [cnt_t hf] at h
        rw [nI_1, nI_1]
        exact h
      · rw [cnt_f hf] at h
        rw [nI_1]
        exact h
  exact key 101 0 (by omega)
theorem s_M_numberOf {v : VT} {I : am_MI} {J : am_MJ} {Q : Int32 → am_MI → am_MJ → Prop} {X : String → am_MI → am_MJ → Prop} (hm : rmV v I J) {a : Int32} (h1 : ∀ f, f < 8 → vN v f ≠ 0 → vN v f = a → (∀ g, g < f → vN v g ≠ 0 → vN v g ≠ a) → Q (nI f) I J) (h0 : (∀ f, f < 8 → vN v f ≠ 0 → vN v f ≠ a) → Q (-1) I J) : w_M_numberOf a I J Q X := by
  unfold w_M_numberOf w_M_numberOf_5
  intro P hP
  have key : ∀ n (x : Int32), n ≤ 8 → (x = -1 ∧ (∀ f, n ≤ f → f < 8 → vN v f ≠ 0 → vN v f ≠ a) ∨ ∃ f, n ≤ f ∧ f < 8 ∧ x = nI f ∧ vN v f ≠ 0 ∧ vN v f = a ∧ ∀ g, n ≤ g → g < f → vN v g ≠ 0 → vN v g ≠ a) → P x (nI n + (-1)) I J := by
    intro n
    induction n with
    | zero =>
      intro x _ hx
      refine hP _ _ _ _ (br_t (by decide) ?_)
      rcases hx with ⟨rfl, h⟩ | ⟨f, -, hf, rfl, h2, h3, h4⟩
      · exact h0 (fun f hf => h f (by omega) hf)
      · exact h1 f hf h2 h3 (fun g hg => h4 g (by omega) hg)
    | succ n ih =>
      intro x hn hx
      rw [pk_m1]
      refine hP _ _ _ _ (br_f (nI_pos (by omega)) ⟨vp_in_nI (by omega) (by omega), ?_⟩)
      rw [nI_clamp (by omega), hm.1 n (by omega)]
      have old : vN v n = 0 ∨ vN v n ≠ a → P x (nI n + (-1)) I J := by
        intro ho
        refine ih x (by omega) (hx.imp (fun ⟨e, h⟩ => ⟨e, fun f h2 h3 h4 => ?_⟩) (fun ⟨f, h2, h3, h4, h5, h6, h7⟩ => ⟨f, by omega, h3, h4, h5, h6, fun g g1 g2 g3 => ?_⟩))
        · by_cases ef : f = n
          · subst ef
            exact ho.elim (fun z => absurd z h4) id
          · exact h f (by omega) h3 h4
        · by_cases eg : g = n
          · subst eg
            exact ho.elim (fun z => absurd z g3) id
          · exact h7 g (by omega) g2 g3
      refine ⟨fun h => old (Or.inl h), fun h => ⟨vp_in_nI (by omega) (by omega), fun h2 => old (Or.inr h2), fun h2 => ?_⟩⟩
      exact ih (nI n) (by omega) (Or.inr ⟨n, Nat.le_refl _, by omega, rfl, h, h2, fun g g1 g2 => absurd g1 (by omega)⟩)
  exact key 8 (-1) (by omega) (Or.inl ⟨rfl, fun f h2 h3 => absurd h3 (by omega)⟩)
theorem s_M_isFile {v : VT} {I : am_MI} {J : am_MJ} {Q : Int32 → am_MI → am_MJ → Prop} {X : String → am_MI → am_MJ → Prop} (hm : rmV v I J) {a : Int32} (h1 : ∀ f, f < 8 → a = nI f → vN v f ≠ 0 → Q 1 I J) (h0 : (∀ f, f < 8 → a = nI f → vN v f = 0) → Q 0 I J) : w_M_isFile a I J Q X := by
  unfold w_M_isFile
  refine ⟨fun h => h0 (fun f hf e => ?_), fun h => ⟨fun h2 => h0 (fun f hf e => ?_), fun h2 => ?_⟩⟩
  · rw [e] at h
    exact absurd h (nI_pos (by omega))
  · rw [e] at h2
    exact absurd h2 (nI_ge (b := 8) hf (by omega))
  · obtain ⟨j, hj, rfl⟩ := nI_of h
    have hj8 : j < 8 := by
      have := nI_leI (a := 8) (b := j) (by omega) hj
      exact Nat.not_le.mp (fun z => h2 (this.mpr z))
    refine ⟨vp_in_nI hj8 (by omega), ?_⟩
    rw [nI_clamp hj, hm.1 j hj8]
    refine ⟨fun h3 => h0 (fun f hf e => ?_), fun h3 => h1 j hj8 rfl h3⟩
    rw [← (nI_eq hj (by omega)).mp e]
    exact h3
end PU2
