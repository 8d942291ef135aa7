section PU16
/-! images, the reference's side -/
def rJ (e : Nat → Nat) (I : am_MI) : Prop := ∀ i, i < 160 → I 38 i = nI (e i)
section
variable {z : Nat} {e e' : Nat → Nat} {c : CH} {v : VT} {I : am_MI} {J : am_MJ}
theorem rJ.cg (h : rJ e I) (g : ∀ i, i < 160 → e i = e' i) : rJ e' I := fun i hi => (h i hi).trans (congrArg nI (g i hi))
theorem s_M_putBytes {Q : am_MI → am_MJ → Prop} {X : String → am_MI → am_MJ → Prop} {a n : Nat} {x : Int64} (hn : n ≤ 8) (ha : a + n ≤ 160)
    (hq : ∀ I', (∀ k, k ≠ 38 → I' k = I k) → (∀ i, I' 38 i = if a ≤ i ∧ i < a + n then nI (by64 x (i - a)) else I 38 i) → Q I' J) : w_M_putBytes (nI a) x (nI n) I J Q X := by
  unfold w_M_putBytes w_M_putBytes_3
  intro P hP
  have key : ∀ m k I1, k + m = n → (∀ k, k ≠ 38 → I1 k = I k) → (∀ i, I1 38 i = if a ≤ i ∧ i < a + k then nI (by64 x (i - a)) else I 38 i) → P (nI k) I1 J := by
    intro m
    induction m with
    | zero =>
      intro k I1 hk k1 k2
      obtain rfl : k = n := by omega
      exact hP _ _ _ (br_t (nI_le (Nat.le_refl _) (by omega)) (hq I1 k1 k2))
    | succ m ih =>
      intro k I1 hk k1 k2
      refine hP _ _ _ (br_f (nI_ge (by omega) (by omega)) ?_)
      rw [nI_add, by_m (by omega), nI_clamp (by omega), nI_1]
      refine ⟨vp_in_nI (by omega) (by omega), ih (k + 1) _ (by omega) (fun k' hk' => by rw [pu_k hk']; exact k1 k' hk') (fun i => ?_)⟩
      by_cases ei : i = a + k
      · rw [ei, pu_s, if_pos (by omega), show a + k - a = k by omega]
      · rw [pu_f ei, k2]
        by_cases h : a ≤ i ∧ i < a + k
        · rw [if_pos h, if_pos (by omega)]
        · rw [if_neg h, if_neg (by omega)]
  exact key n 0 I (by omega) (fun _ _ => rfl) (fun i => by rw [if_neg (by omega)])
theorem s_M_getBytes {Q : Int32 → am_MI → am_MJ → Prop} {X : String → am_MI → am_MJ → Prop} {a n : Nat} (hn : n ≤ 4) (ha : a + n ≤ 160) (he : ∀ i, i < 160 → e i < 256) (hr : rJ e I)
    (hq : ∀ r, (∀ k, by32 r k = if k < n then e (a + k) else 0) → Q r I J) : w_M_getBytes (nI a) (nI n) I J Q X := by
  unfold w_M_getBytes w_M_getBytes_5
  intro P hP
  have key : ∀ m k (x : Int32), k + m = n → (∀ j, by32 x j = if j < k then e (a + j) else 0) → P x (nI k) I J := by
    intro m
    induction m with
    | zero =>
      intro k x hk hx
      obtain rfl : k = n := by omega
      exact hP _ _ _ _ (br_t (nI_le (Nat.le_refl _) (by omega)) (hq x hx))
    | succ m ih =>
      intro k x hk hx
      refine hP _ _ _ _ (br_f (nI_ge (by omega) (by omega)) ?_)
      rw [nI_add, nI_clamp (by omega), hr (a + k) (by omega), nI_1]
      refine ⟨vp_in_nI (by omega) (by omega), ih (k + 1) _ (by omega) (fun j => ?_)⟩
      rw [by32_or (he _ (by omega)) (by omega) (by rw [hx, if_neg (by omega)]), hx]
      by_cases ej : j = k
      · rw [if_pos ej, if_pos (by omega), ej]
      · rw [if_neg ej]
        by_cases h : j < k
        · rw [if_pos h, if_pos (by omega)]
        · rw [if_neg h, if_neg (by omega)]
  exact key n 0 0 (by omega) (fun j => by rw [if_neg (by omega)]; exact by32_z j)
theorem s_M_get1 {Q : Int32 → am_MI → am_MJ → Prop} {X : String → am_MI → am_MJ → Prop} {a : Nat} (ha : a < 160) (he : ∀ i, i < 160 → e i < 256) (hr : rJ e I) (hq : Q (nI (e a)) I J) : w_M_getBytes (nI a) 1 I J Q X :=
  s_M_getBytes (n := 1) (by omega) (by omega) he hr (fun r h => by
    have := num1 (x := e a) (he a ha) (fun k => by
      rw [h k]
      by_cases hk : k < 1
      · rw [if_pos hk, if_pos hk, show a + k = a by omega]
      · rw [if_neg hk, if_neg hk])
    rw [this]; exact hq)
theorem s_M_get2 {Q : Int32 → am_MI → am_MJ → Prop} {X : String → am_MI → am_MJ → Prop} {a : Nat} (ha : a + 2 ≤ 160) (he : ∀ i, i < 160 → e i < 256) (hr : rJ e I) (hq : Q (nI (e a + 256 * e (a + 1))) I J) : w_M_getBytes (nI a) 2 I J Q X :=
  s_M_getBytes (n := 2) (by omega) (by omega) he hr (fun r h => by
    have := num2 (he a (by omega)) (he (a + 1) (by omega)) (h 0) (h 1) (h 2) (h 3)
    rw [this]; exact hq)
theorem s_M_sumOfImage {Q : Int32 → am_MI → am_MJ → Prop} {X : String → am_MI → am_MJ → Prop} (he : ∀ i, i < 158 → e i < 256) (hr : ∀ i, i < 158 → I 38 i = nI (e i)) (hq : Q (nI (1 + sumB e 158)) I J) : w_M_sumOfImage I J Q X := by
  unfold w_M_sumOfImage w_M_sumOfImage_4
  intro P hP
  have key : ∀ m k, k + m = 158 → P (nI (1 + sumB e k)) (nI k) I J := by
    intro m
    induction m with
    | zero =>
      intro k hk
      obtain rfl : k = 158 := by omega
      have := sumB_le (e := e) 158 he
      refine hP _ _ _ _ (br_t (nI_le (a := 158) (by omega) (by omega)) ?_)
      have er : nI (1 + sumB e 158) - nI (1 + sumB e 158) / 65536 * 65536 = nI ((1 + sumB e 158) % 65536) := pk_rem (d := 65536) (by omega) (by omega) (by omega)
      rw [er, Nat.mod_eq_of_lt (by omega)]
      exact hq
    | succ m ih =>
      intro k hk
      refine hP _ _ _ _ (br_f (nI_ge (b := 158) (by omega) (by omega)) ⟨vp_in_nI (by omega) (by omega), ?_⟩)
      rw [nI_clamp (by omega), hr k (by omega), nI_add, nI_1, show 1 + sumB e k + e k = 1 + sumB e (k + 1) from Nat.add_assoc ..]
      exact ih (k + 1) (by omega)
  exact key 158 0 (by omega)
theorem s_M_loadImage {Q : am_MI → am_MJ → Prop} {X : String → am_MI → am_MJ → Prop} {z : Nat} (hz : z < 2) (hq : ∀ I', (∀ k, k ≠ 38 → I' k = I k) → rJ (fun i => by64 (J 30 (20 * z + i / 8)) (i % 8)) I' → Q I' J) : w_M_loadImage (nI z) I J Q X := by
  unfold w_M_loadImage w_M_loadImage_2
  intro P hP
  have key : ∀ m x I1, x + m = 20 → (∀ k, k ≠ 38 → I1 k = I k) → (∀ i, i < 8 * x → I1 38 i = nI (by64 (J 30 (20 * z + i / 8)) (i % 8))) → P (nI x) I1 J := by
    intro m
    induction m with
    | zero =>
      intro x I1 hx k1 k2
      obtain rfl : x = 20 := by omega
      exact hP _ _ _ (br_t (nI_le (a := 20) (by omega) (by omega)) (hq I1 k1 (fun i hi => k2 i (by omega))))
    | succ m ih =>
      intro x I1 hx k1 k2
      refine hP _ _ _ (br_f (nI_ge (b := 20) (by omega) (by omega)) ?_)
      rw [show (20 : Int32) * nI z + nI x = nI (20 * z + x) by rw [show (20 : Int32) = nI 20 from rfl, pk_mul, nI_add], show (8 : Int32) * nI x = nI (8 * x) from pk_mul 8 x, nI_clamp (by omega), nI_1]
      refine ⟨vp_in_nI (by omega) (by omega), s_M_putBytes (n := 8) (by omega) (by omega) (fun I2 g1 g2 => ih (x + 1) I2 (by omega) (fun k hk => (g1 k hk).trans (k1 k hk)) (fun i hi => ?_))⟩
      rw [g2]
      by_cases h : 8 * x ≤ i ∧ i < 8 * x + 8
      · rw [if_pos h, show i / 8 = x by omega, show i - 8 * x = i % 8 by omega]
      · rw [if_neg h]; exact k2 i (by omega)
  exact key 20 0 I (by omega) (fun _ _ => rfl) (fun i hi => absurd hi (by omega))
end
end PU16
