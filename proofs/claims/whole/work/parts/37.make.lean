section PU17
/-! the image that the reference makes -/
def lkd (v : VT) (f j g i : Nat) : Prop := g < 8 ∧ i + 1 < np (vL v g) ∧ (g < f ∨ g = f ∧ i + 1 < j)
def LK (v : VT) (f j : Nat) (I : am_MI) : Prop := (∀ g i, lkd v f j g i → I 39 (vC v g i) = nI (vC v g (i + 1))) ∧ ∀ p, p < 101 → (∀ g i, lkd v f j g i → vC v g i ≠ p) → I 39 p = 0
section
variable {z : Nat} {e e' : Nat → Nat} {c : CH} {v : VT} {I : am_MI} {J : am_MJ}
theorem LK.mv {f j : Nat} {I' : am_MI} (h : LK v f j I) (e : I' 39 = I 39) : LK v f j I' := by
  unfold LK at h ⊢
  rw [e]
  exact h
theorem LK.next {f : Nat} (h : LK v f (np (vL v f)) I ∨ (np (vL v f) = 0 ∧ LK v f 1 I)) : LK v (f + 1) 1 I := by
  have hh : ∃ j, np (vL v f) ≤ j ∧ LK v f j I := by
    rcases h with h | ⟨a, h⟩
    · exact ⟨_, Nat.le_refl _, h⟩
    · exact ⟨1, by omega, h⟩
  obtain ⟨j, hj, h⟩ := hh
  have e : ∀ g i, lkd v (f + 1) 1 g i ↔ lkd v f j g i := by
    intro g i
    unfold lkd
    constructor
    · rintro ⟨a, b, d⟩
      refine ⟨a, b, ?_⟩
      by_cases eg : g = f
      · subst eg
        exact Or.inr ⟨rfl, by omega⟩
      · exact Or.inl (by omega)
    · rintro ⟨a, b, d⟩
      exact ⟨a, b, Or.inl (by omega)⟩
  exact ⟨fun g i x => h.1 g i ((e g i).mp x), fun p hp x => h.2 p hp (fun g i y => x g i ((e g i).mpr y))⟩
theorem LK.put (hv : vOK v) {f i : Nat} (hf : f < 8) (hi : i + 1 < np (vL v f)) (h : LK v f (i + 1) I) : LK v f (i + 1 + 1) (am_ui I 39 (vC v f i) (nI (vC v f (i + 1)))) := by
  refine ⟨fun g k x => ?_, fun p hp x => ?_⟩
  · by_cases e : vC v g k = vC v f i
    · obtain ⟨rfl, rfl⟩ := hv.2.2.1 g x.1 f hf k (by have := x.2.1; omega) i (by omega) e
      rw [pu_s]
    · rw [pu_f e]
      refine h.1 g k ⟨x.1, x.2.1, ?_⟩
      rcases x.2.2 with y | ⟨rfl, y⟩
      · exact Or.inl y
      · refine Or.inr ⟨rfl, ?_⟩
        by_cases ek : k = i
        · exact absurd (by rw [ek]) e
        · omega
  · have e : p ≠ vC v f i := fun y => x f i ⟨hf, hi, Or.inr ⟨rfl, by omega⟩⟩ y.symm
    rw [pu_f e]
    exact h.2 p hp (fun g k y => x g k ⟨y.1, y.2.1, by have := y.2.2; omega⟩)
theorem LK.all (hv : vOK v) (h : LK v 8 1 I) {p : Nat} (hp : p < 101) : I 39 p = nI (lk v p) := by
  by_cases hx : ∃ q, isLk v p q
  · obtain ⟨q, f, hf, i, hi, rfl, rfl⟩ := hx
    rw [lk_of hv hf hi]; exact h.1 f i ⟨hf, hi, Or.inl hf⟩
  · have hno : ∀ f, f < 8 → ∀ i, i + 1 < np (vL v f) → vC v f i ≠ p := fun f hf i hi e => hx ⟨_, f, hf, i, hi, e, rfl⟩
    rw [lk_no hno]; exact h.2 p hp (fun g i y => hno g y.1 i y.2.1)
theorem rmV.k3 {I' : am_MI} (h : rmV v I J) (g : ∀ k, k ≠ 38 → k ≠ 39 → I' k = I k) : rmV v I' J := h.mv (fun k _ _ => g k (by omega) (by omega)) (fun _ _ _ => rfl)
theorem s_M_makeImage {Q : am_MI → am_MJ → Prop} {X : String → am_MI → am_MJ → Prop} {t : Nat} (ht : t < 256) (hv : vOK v) (hm : rmV v I J)
    (hq : ∀ I', (∀ k, k ≠ 38 → k ≠ 39 → I' k = I k) → rJ (enc v t) I' → Q I' J) : w_M_makeImage (nI t) I J Q X := by
  unfold w_M_makeImage w_M_makeImage_2
  intro P2 hP2
  have k161 : ∀ P23 : Int32 → am_MI → am_MJ → Prop, ∀ I1, (∀ k, k ≠ 38 → k ≠ 39 → I1 k = I k) → LK v 8 1 I1 → (∀ i, i < 57 → I1 38 i = nI (enc0 v t i)) → w_M_makeImage_161 0 I1 J Q X P2 P23 := by
    intro P23 I1 a1 a2 a3
    unfold w_M_makeImage_161
    intro P hP
    have key : ∀ m p I2, p + m = 101 → (∀ k, k ≠ 38 → I2 k = I1 k) → (∀ i, i < 57 + p → I2 38 i = nI (enc0 v t i)) → P (nI p) I2 J := by
      intro m
      induction m with
      | zero =>
        intro p I2 hp b1 b2
        obtain rfl : p = 101 := by omega
        refine hP _ _ _ (br_t (nI_le (a := 101) (by omega) (by omega)) (s_M_sumOfImage (fun i hi => enc0_lt hv ht i) (fun i hi => b2 i (by omega)) (s_M_putBytes (a := 158) (n := 2) (by omega) (by omega) (fun I3 g1 g2 => hq I3 (fun k h1 h2 => ?_) (fun i hi => ?_)))))
        · rw [g1 k h1, b1 k h1]; exact a1 k h1 h2
        · have := sumB_le (e := enc0 v t) 158 (fun i _ => enc0_lt hv ht i)
          rw [g2]
          unfold enc
          by_cases h : i < 158
          · rw [if_neg (by omega), if_pos h]; exact b2 i (by omega)
          · rw [if_pos (by omega), if_neg h, by64_i (by omega), by32_n (by omega)]
      | succ m ih =>
        intro p I2 hp b1 b2
        have hl := lk_lt hv p
        refine hP _ _ _ (br_f (nI_ge (b := 101) (by omega) (by omega)) ⟨vp_in_nI (by omega) (by omega), ?_⟩)
        rw [nI_clamp (by omega), b1 39 (by decide), a2.all hv (by omega), show (57 : Int32) = nI 57 from rfl, nI_add, nI_1]
        refine s_M_putBytes (n := 1) (by omega) (by omega) (fun I3 g1 g2 => ih (p + 1) I3 (by omega) (fun k hk => (g1 k hk).trans (b1 k hk)) (fun i hi => ?_))
        rw [g2]
        by_cases h : i = 57 + p
        · rw [if_pos (by omega), h, enc0_lk, show 57 + p - (57 + p) = 0 by omega, by64_i (by omega), by32_n (by omega)]
          show nI (lk v p / 1 % 256) = _
          rw [Nat.div_one, Nat.mod_eq_of_lt (by omega)]
        · rw [if_neg (by omega)]
          exact b2 i (by omega)
    exact key 101 0 I1 (by omega) (fun _ _ => rfl) (fun i hi => a3 i (by omega))
  have k23 : ∀ I1, (∀ k, k ≠ 38 → k ≠ 39 → I1 k = I k) → (∀ p, p < 101 → I1 39 p = 0) → w_M_makeImage_23 (nI t) 0 I1 J Q X P2 := by
    intro I1 a1 a2
    unfold w_M_makeImage_23
    intro P hP
    have key : ∀ m f I2, f + m = 8 → (∀ k, k ≠ 38 → k ≠ 39 → I2 k = I k) → LK v f 1 I2 → (∀ i, 1 ≤ i → i < 1 + 7 * f → I2 38 i = nI (enc0 v t i)) → P (nI f) I2 J := by
      intro m
      induction m with
      | zero =>
        intro f I2 hf b1 b2 b3
        obtain rfl : f = 8 := by omega
        refine hP _ _ _ (br_t (nI_le (a := 8) (by omega) (by omega)) (s_M_putBytes (a := 0) (n := 1) (by omega) (by omega) (fun I3 g1 g2 => k161 P I3 (fun k h1 h2 => (g1 k h1).trans (b1 k h1 h2)) (b2.mv (g1 39 (by decide))) (fun i hi => ?_))))
        rw [g2]
        by_cases h : i = 0
        · subst h
          rw [if_pos (by omega), by64_i (by omega), by32_n (by omega)]
          show nI (t / 256 ^ 0 % 256) = nI t
          rw [Nat.pow_zero, Nat.div_one, Nat.mod_eq_of_lt ht]
        · rw [if_neg (by omega)]
          exact b3 i (by omega) (by omega)
      | succ m ih =>
        intro f I2 hf b1 b2 b3
        have hf8 : f < 8 := by omega
        have hl := hv.len hf8
        have hnp := hv.pg hf8
        have hfp := fp_lt hv hf8
        refine hP _ _ _ (br_f (nI_ge (b := 8) (by omega) (by omega)) ?_)
        unfold w_M_makeImage_31
        intro P31 hP31
        have fin : ∀ I3, (∀ k, k ≠ 38 → k ≠ 39 → I3 k = I k) → LK v (f + 1) 1 I3 → (∀ i, 1 ≤ i → i < 1 + 7 * f → I3 38 i = nI (enc0 v t i)) → vp_in (nI f) 8 ∧ (w_M_putBytes ((1 : Int32) + ((7 : Int32) * nI f)) ((I3 31 (nI f).toNatClampNeg).toInt64) (4 : Int32) I3 J (fun (I22 : am_MI) (J23 : am_MJ) => w_M_pages (nI f) I22 J23 (fun (r27 : Int32) (I25 : am_MI) (J26 : am_MJ) => (r27 ≤ 0 → (w_M_makeImage_122 (nI t) (nI f) (0 : Int64) ((5 : Int32) + ((7 : Int32) * nI f)) I25 J26 Q X P2 P P31)) ∧ (¬ (r27 ≤ 0) → (vp_in ((64 : Int32) * nI f) 512 ∧ (w_M_makeImage_122 (nI t) (nI f) ((I25 33 ((64 : Int32) * nI f).toNatClampNeg).toInt64) ((5 : Int32) + ((7 : Int32) * nI f)) I25 J26 Q X P2 P P31)))) X) X) := by
          intro I3 c1 c2 c3
          have m3 := hm.k3 c1
          refine ⟨vp_in_nI (by omega) (by omega), ?_⟩
          rw [nI_clamp (by omega), m3.1 f hf8, show (1 : Int32) + ((7 : Int32) * nI f) = nI (1 + 7 * f) by rw [show (7 : Int32) = nI 7 from rfl, show (1 : Int32) = nI 1 from rfl, pk_mul, nI_add], show (5 : Int32) + ((7 : Int32) * nI f) = nI (5 + 7 * f) by rw [show (7 : Int32) = nI 7 from rfl, show (5 : Int32) = nI 5 from rfl, pk_mul, nI_add]]
          refine s_M_putBytes (n := 4) (by omega) (by omega) (fun I4 g1 g2 => ?_)
          have d1 : ∀ k, k ≠ 38 → k ≠ 39 → I4 k = I k := fun k h1 h2 => (g1 k h1).trans (c1 k h1 h2)
          have m4 := hm.k3 d1
          have tail : w_M_makeImage_122 (nI t) (nI f) ((nI (fp v f)).toInt64) (nI (5 + 7 * f)) I4 J Q X P2 P P31 := by
            unfold w_M_makeImage_122
            refine s_M_putBytes (n := 1) (by omega) (by omega) (fun I5 g3 g4 => ⟨vp_in_nI (by omega) (by omega), ?_⟩)
            have d2 : ∀ k, k ≠ 38 → k ≠ 39 → I5 k = I k := fun k h1 h2 => (g3 k h1).trans (d1 k h1 h2)
            rw [nI_clamp (by omega), (hm.k3 d2).2.1 f hf8, show (6 : Int32) + ((7 : Int32) * nI f) = nI (6 + 7 * f) by rw [show (7 : Int32) = nI 7 from rfl, show (6 : Int32) = nI 6 from rfl, pk_mul, nI_add], nI_1]
            refine s_M_putBytes (n := 2) (by omega) (by omega) (fun I6 g5 g6 => ih (f + 1) I6 (by omega) (fun k h1 h2 => (g5 k h1).trans (d2 k h1 h2)) (c2.mv (((g5 39 (by decide)).trans (g3 39 (by decide))).trans (g1 39 (by decide)))) (fun i hi1 hi => ?_))
            rw [g6, g4, g2]
            by_cases h : i < 1 + 7 * f
            · rw [if_neg (by omega), if_neg (by omega), if_neg (by omega)]
              exact c3 i hi1 h
            · obtain ⟨r, hr, rfl⟩ : ∃ r, r < 7 ∧ i = 1 + 7 * f + r := ⟨i - (1 + 7 * f), by omega, by omega⟩
              rw [enc0_at hf8 hr]
              by_cases r4 : r < 4
              · rw [if_neg (by omega), if_neg (by omega), if_pos (by omega), if_pos r4, show 1 + 7 * f + r - (1 + 7 * f) = r by omega, by64_i r4]
              · by_cases r5 : r = 4
                · rw [if_neg (by omega), if_pos (by omega), if_neg r4, if_pos r5, show 1 + 7 * f + r - (5 + 7 * f) = 0 by omega, by64_i (by omega), by32_n (by omega), Nat.pow_zero, Nat.div_one, Nat.mod_eq_of_lt (by omega)]
                · rw [if_pos (by omega), if_neg r4, if_neg r5, show 1 + 7 * f + r - (6 + 7 * f) = r - 5 by omega, by64_i (by omega), by32_n (by omega)]
          refine s_M_pages hv m4 hf8 ?_
          by_cases h0 : np (vL v f) = 0
          · refine br_t (by rw [h0]; exact Int32.le_refl _) ?_
            have : (0 : Int64) = (nI (fp v f)).toInt64 := by
              unfold fp
              rw [if_pos h0]
              rfl
            rw [this]
            exact tail
          · refine br_f (nI_nle (by omega) (by omega)) ?_
            rw [show (64 : Int32) * nI f = nI (64 * f + 0) from pk_mul 64 f, nI_clamp (by omega), m4.2.2.1 f hf8 0 (by omega)]
            have : vC v f 0 = fp v f := by
              unfold fp
              rw [if_neg h0]
            rw [this]
            exact ⟨vp_in_nI (by omega) (by omega), tail⟩
        have key2 : ∀ n j I3, (np (vL v f) = j + 1 + n ∨ np (vL v f) = 0 ∧ j = 0 ∧ n = 0) → (∀ k, k ≠ 38 → k ≠ 39 → I3 k = I k) → LK v f (j + 1) I3 → (∀ i, 1 ≤ i → i < 1 + 7 * f → I3 38 i = nI (enc0 v t i)) → P31 (nI (j + 1)) I3 J := by
          intro n
          induction n with
          | zero =>
            intro j I3 hj c1 c2 c3
            refine hP31 _ _ _ (s_M_pages hv (hm.k3 c1) hf8 (br_t (nI_le (by omega) (by omega)) (fin I3 c1 (LK.next ?_) c3)))
            rcases hj with hj | ⟨h1, rfl, -⟩
            · exact Or.inl (by rw [hj]; exact c2)
            · exact Or.inr ⟨h1, c2⟩
          | succ n ih2 =>
            intro j I3 hj c1 c2 c3
            have hj : np (vL v f) = j + 1 + (n + 1) := by omega
            have m3 := hm.k3 c1
            have hb := hv.2.1 f hf8 j (by omega)
            refine hP31 _ _ _ (s_M_pages hv m3 hf8 (br_f (nI_ge (by omega) (by omega)) ?_))
            rw [pk_64, show nI (64 * f + (j + 1)) - 1 = nI (64 * f + j) from nI_pred (64 * f + j), nI_clamp (by omega), nI_clamp (by omega), m3.2.2.1 f hf8 j (by omega), m3.2.2.1 f hf8 (j + 1) (by omega), nI_clamp (by omega), nI_1]
            exact ⟨vp_in_nI (by omega) (by omega), vp_in_nI (by omega) (by omega), vp_in_nI (by omega) (by omega), ih2 (j + 1) _ (Or.inl (by omega)) (fun k h1 h2 => (pu_k h2 ..).trans (c1 k h1 h2)) (c2.put hv hf8 (by omega)) (fun i h1 h2 => by rw [pu_k (by decide)]; exact c3 i h1 h2)⟩
        refine key2 (np (vL v f) - 1) 0 I2 (by omega) b1 b2 b3
    exact key 8 0 I1 (by omega) a1 ⟨fun g i x => by rcases x.2.2 with y | ⟨y, z⟩ <;> omega, fun p hp _ => a2 p hp⟩ (fun i h1 h2 => by omega)
  have key : ∀ m x I1, x + m = 101 → (∀ k, k ≠ 38 → k ≠ 39 → I1 k = I k) → (∀ p, p < x → I1 39 p = 0) → P2 (nI x) I1 J := by
    intro m
    induction m with
    | zero =>
      intro x I1 hx b1 b2
      obtain rfl : x = 101 := by omega
      exact hP2 _ _ _ (br_t (nI_le (a := 101) (by omega) (by omega)) (k23 I1 b1 b2))
    | succ m ih =>
      intro x I1 hx b1 b2
      refine hP2 _ _ _ (br_f (nI_ge (b := 101) (by omega) (by omega)) ⟨vp_in_nI (by omega) (by omega), ?_⟩)
      rw [nI_clamp (by omega), nI_1]
      refine ih (x + 1) _ (by omega) (fun k h1 h2 => (pu_k h2 ..).trans (b1 k h1 h2)) (fun p hp => ?_)
      by_cases e : p = x
      · rw [e, pu_s]
      · rw [pu_f e]; exact b2 p (by omega)
  exact key 101 0 I (by omega) (fun _ _ _ => rfl) (fun p hp => absurd hp (by omega))
end
end PU17
