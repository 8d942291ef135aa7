section PU3
/-! images' bytes, and the invariant -/
def by64 (x : Int64) (j : Nat) : Nat := x.toBitVec.toNat / 256 ^ j % 256
def by32 (x : Int32) (j : Nat) : Nat := x.toBitVec.toNat / 256 ^ j % 256
def fp (v : VT) (f : Nat) : Nat := if np (vL v f) = 0 then 0 else vC v f 0
def isLk (v : VT) (p q : Nat) : Prop := ∃ f, f < 8 ∧ ∃ i, i + 1 < np (vL v f) ∧ vC v f i = p ∧ vC v f (i + 1) = q
noncomputable def lk (v : VT) (p : Nat) : Nat := @dite Nat (∃ q, isLk v p q) (Classical.propDecidable _) (fun h => h.choose) (fun _ => 0)
theorem lk_of {v : VT} (hv : vOK v) {f i : Nat} (hf : f < 8) (hi : i + 1 < np (vL v f)) : lk v (vC v f i) = vC v f (i + 1) := by
  have hx : ∃ q, isLk v (vC v f i) q := ⟨_, f, hf, i, hi, rfl, rfl⟩
  unfold lk
  rw [@dif_pos _ (Classical.propDecidable _) hx]
  obtain ⟨g, hg, j, hj, e1, e2⟩ := hx.choose_spec
  obtain ⟨rfl, rfl⟩ := hv.2.2.1 g hg f hf j (by omega) i (by omega) e1
  exact e2.symm
theorem lk_no {v : VT} {p : Nat} (h : ∀ f, f < 8 → ∀ i, i + 1 < np (vL v f) → vC v f i ≠ p) : lk v p = 0 := by
  unfold lk
  rw [@dif_neg _ (Classical.propDecidable _)]
  rintro ⟨q, f, hf, i, hi, e, -⟩
  exact h f hf i hi e
theorem lk_lt {v : VT} (hv : vOK v) (p : Nat) : lk v p < 101 := by
  by_cases h : ∃ q, isLk v p q
  · obtain ⟨q, f, hf, i, hi, rfl, rfl⟩ := h
    rw [lk_of hv hf hi]
    exact (hv.2.1 f hf (i + 1) hi).2
  · rw [lk_no (fun f hf i hi e => h ⟨_, f, hf, i, hi, e, rfl⟩)]
    omega
/-- the bytes of an image ahead of its sum -/
noncomputable def enc0 (v : VT) (t i : Nat) : Nat :=
  if i = 0 then t else if i < 57 then (if (i - 1) % 7 < 4 then by32 (vN v ((i - 1) / 7)) ((i - 1) % 7) else if (i - 1) % 7 = 4 then fp v ((i - 1) / 7) else vL v ((i - 1) / 7) / 256 ^ ((i - 1) % 7 - 5) % 256) else lk v (i - 57)
def sumB (b : Nat → Nat) : Nat → Nat
  | 0 => 0
  | n + 1 => sumB b n + b n
noncomputable def enc (v : VT) (t i : Nat) : Nat := if i < 158 then enc0 v t i else (1 + sumB (enc0 v t) 158) / 256 ^ (i - 158) % 256
/-- image cur is whole, with turn t, and is the one that a mount takes -/
def IMG (cur t : Nat) (d : Nat → Int64) : Prop := ∃ v, vOK v ∧ (∀ i, i < 160 → by64 (d (20 * cur + i / 8)) (i % 8) = enc v t i) ∧
  (cur = 0 → ¬ (1 ≤ (by64 (d 20) 0 + 256 - t) % 256 ∧ (by64 (d 20) 0 + 256 - t) % 256 ≤ 127)) ∧ (cur = 1 → 1 ≤ (t + 256 - by64 (d 0) 0) % 256 ∧ (t + 256 - by64 (d 0) 0) % 256 ≤ 127)
theorem IMG.mv {cur t : Nat} {d d' : Nat → Int64} (hc : cur < 2) (h : IMG cur t d) (e : ∀ p, p < 40 → d' p = d p) : IMG cur t d' := by
  obtain ⟨v, hv, h1, h2, h3⟩ := h
  refine ⟨v, hv, fun i hi => ?_, ?_, ?_⟩
  · rw [e _ (by omega)]; exact h1 i hi
  · rw [e 20 (by omega)]; exact h2
  · rw [e 0 (by omega)]; exact h3
def OIMG (d : Nat → Int64) : Prop := (∀ p, p < 40 → d p = 0) ∨ ∃ cur, cur < 2 ∧ ∃ t, t < 256 ∧ IMG cur t d
theorem OIMG.mv {d d' : Nat → Int64} (h : OIMG d) (e : ∀ p, p < 40 → d' p = d p) : OIMG d' := by
  rcases h with h | ⟨cur, hc, t, ht, h⟩
  · exact Or.inl (fun p hp => (e p hp).trans (h p hp))
  · exact Or.inr ⟨cur, hc, t, ht, h.mv hc e⟩
/-- requests and answers -/
def rqR (I : am_MI) (J : am_MJ) : Prop := ∃ n a, n ≤ 16 ∧ a ≤ 16 ∧ I 17 5 = nI n ∧ I 28 20 = nI n ∧ I 17 6 = nI a ∧ I 28 25 = nI a ∧ (∀ k, k < n → (∃ p, p < 101 ∧ I 18 k = nI p ∧ I 40 k = nI p) ∧ I 19 k = I 41 k ∧ (I 41 k = 0 ∨ I 41 k = 1) ∧ J 20 k = J 42 k) ∧ ∀ k, k < a → J 22 k = J 44 k
/-- mounted -/
def mtR (c : CH) (v : VT) (cur t : Nat) (I : am_MI) (J : am_MJ) : Prop := vOK v ∧ rcV v I J ∧ rmV v I J ∧ cur < 2 ∧ t < 256 ∧ I 0 6 = nI cur ∧ I 0 7 = nI t ∧ I 28 15 = nI cur ∧ I 28 16 = nI t ∧ I 28 2 = 1 ∧ IMG cur t c.2.2.2 ∧ rqR I J
def INV (I : am_MI) (J : am_MJ) : Prop := ∃ c : CH, rcC c I J ∧ rmC c I J ∧ (∀ k, k < 69 → I 3 k = I 29 k) ∧ I 1 2 = I 28 2 ∧ (I 28 2 = 0 ∨ I 28 2 = 1 ∧ OIMG c.2.2.2) ∧
  ((I 0 4 = 0 ∧ I 28 7 = 0) ∨ (I 0 4 = 1 ∧ I 28 7 = 1 ∧ I 28 8 = 0) ∨ (I 0 4 = 2 ∧ I 28 7 = 1 ∧ I 28 8 = 1 ∧ ∃ v cur t, mtR c v cur t I J))
theorem rcC.mv {c : CH} {I I' : am_MI} {J J' : am_MJ} (h : rcC c I J) (h1 : I' 1 3 = I 1 3) (h2 : J' 1 4 = J 1 4) (h3 : I' 0 5 = I 0 5) (h4 : J' 2 = J 2) : rcC c I' J' := ⟨h.1, h1.trans h.2.1, h2.trans h.2.2.1, h3.trans h.2.2.2.1, fun p hp => (congrFun h4 p).trans (h.2.2.2.2 p hp)⟩
theorem rmC.mv {c : CH} {I I' : am_MI} {J J' : am_MJ} (h : rmC c I J) (h1 : I' 28 4 = I 28 4) (h2 : J' 28 5 = J 28 5) (h3 : I' 28 6 = I 28 6) (h4 : J' 30 = J 30) : rmC c I' J' := ⟨h.1, h1.trans h.2.1, h2.trans h.2.2.1, h3.trans h.2.2.2.1, fun p hp => (congrFun h4 p).trans (h.2.2.2.2 p hp)⟩
theorem rqR.mv {I I' : am_MI} {J J' : am_MJ} (h : rqR I J) (h1 : I' 17 = I 17) (h2 : I' 28 20 = I 28 20) (h3 : I' 28 25 = I 28 25) (h4 : I' 18 = I 18) (h5 : I' 40 = I 40) (h6 : I' 19 = I 19) (h7 : I' 41 = I 41) (h8 : J' 20 = J 20) (h9 : J' 42 = J 42) (h10 : J' 22 = J 22) (h11 : J' 44 = J 44) : rqR I' J' := by
  unfold rqR at h ⊢
  rw [h1, h2, h3, h4, h5, h6, h7, h8, h9, h10, h11]
  exact h
theorem mtR.mv {c : CH} {v : VT} {cur t : Nat} {I I' : am_MI} {J J' : am_MJ} (h : mtR c v cur t I J) (h1 : ∀ k, 6 ≤ k → k ≠ 28 → k < 42 → I' k = I k) (h2 : ∀ f, f ≠ 0 → f ≠ 4 → f ≠ 6 → f ≠ 7 → f ≠ 8 → I' 28 f = I 28 f) (h3 : ∀ f, f ≠ 4 → f ≠ 5 → I' 0 f = I 0 f) (h4 : ∀ k, 6 ≤ k → k ≠ 28 → k ≠ 30 → k < 45 → J' k = J k) : mtR c v cur t I' J' := by
  obtain ⟨a1, a2, a3, a4, a5, a6, a7, a8, a9, a10, a11, a12⟩ := h
  refine ⟨a1, a2.mv (fun k x y => h1 k x (by omega) (by omega)) (fun k x y => h4 k x (by omega) (by omega) (by omega)), a3.mv (fun k x y => h1 k (by omega) (by omega) (by omega)) (fun k x y => h4 k (by omega) (by omega) (by omega) (by omega)), a4, a5, (h3 6 (by decide) (by decide)).trans a6, (h3 7 (by decide) (by decide)).trans a7, (h2 15 (by decide) (by decide) (by decide) (by decide) (by decide)).trans a8, (h2 16 (by decide) (by decide) (by decide) (by decide) (by decide)).trans a9, (h2 2 (by decide) (by decide) (by decide) (by decide) (by decide)).trans a10, a11, ?_⟩
  exact a12.mv (h1 17 (by omega) (by omega) (by omega)) (h2 20 (by decide) (by decide) (by decide) (by decide) (by decide)) (h2 25 (by decide) (by decide) (by decide) (by decide) (by decide)) (h1 18 (by omega) (by omega) (by omega)) (h1 40 (by omega) (by omega) (by omega)) (h1 19 (by omega) (by omega) (by omega)) (h1 41 (by omega) (by omega) (by omega)) (h4 20 (by omega) (by omega) (by omega) (by omega)) (h4 42 (by omega) (by omega) (by omega) (by omega)) (h4 22 (by omega) (by omega) (by omega) (by omega)) (h4 44 (by omega) (by omega) (by omega) (by omega))
/-- the code of the last call and the law's own array are no part of it -/
theorem INV.eq {I I' : am_MI} {J J' : am_MJ} (h : INV I J) (h1 : ∀ k, k ≠ 28 → I' k = I k) (h2 : ∀ f, f ≠ 0 → I' 28 f = I 28 f) (h3 : ∀ k, k ≠ 45 → J' k = J k) : INV I' J' := by
  obtain ⟨c, a1, a2, a3, a4, a5, a6⟩ := h
  refine ⟨c, a1.mv (by rw [h1 1 (by decide)]) (by rw [h3 1 (by decide)]) (by rw [h1 0 (by decide)]) (h3 2 (by decide)), a2.mv (h2 4 (by decide)) (by rw [h3 28 (by decide)]) (h2 6 (by decide)) (h3 30 (by decide)), fun k hk => by rw [h1 3 (by decide), h1 29 (by decide)]; exact a3 k hk, by rw [h1 1 (by decide), h2 2 (by decide)]; exact a4, by rw [h2 2 (by decide)]; exact a5, ?_⟩
  rw [h1 0 (by decide), h2 7 (by decide), h2 8 (by decide)]
  exact a6.imp id (Or.imp id (fun ⟨b1, b2, b3, v, cur, t, b4⟩ => ⟨b1, b2, b3, v, cur, t, b4.mv (fun k _ x _ => h1 k x) (fun f x _ _ _ _ => h2 f x) (fun f _ _ => by rw [h1 0 (by decide)]) (fun k _ _ _ x => h3 k (by omega))⟩))
theorem INV.code {I : am_MI} {J : am_MJ} (h : INV I J) (x : Int32) : INV (am_ui I 28 0 x) J := h.eq (fun k a => pu_k a ..) (fun f a => pu_f a ..) (fun _ _ => rfl)
theorem INV.out {I : am_MI} {J : am_MJ} (h : INV I J) (f : Nat) (x : Int64) : INV I (am_uj J 45 f x) := h.eq (fun _ _ => rfl) (fun _ _ => rfl) (fun k a => pj_k a ..)
theorem lg_same (x : Int64) : lg_cmp x x = 0 := by simp [lg_cmp]
theorem xin {L0 j : Nat} {x4 : Int32} (h0 : 0 ≤ x4.toInt) (h5 : x4.toInt + 5 ≤ L0) (hL : L0 ≤ 2560) (hj : j < 5) : vp_in (x4 + nI j) L0 := by
  obtain ⟨i, hi, rfl⟩ : ∃ i : Nat, i < 2 ^ 31 ∧ x4 = nI i := nI_of (by rw [Int32.lt_iff_toInt_lt]; show ¬ _ < (0 : Int); omega)
  rw [nI_toInt hi] at h5
  rw [nI_add]
  exact vp_in_nI (by omega) (by omega)
theorem case2 {L0 : Nat} {xs : Nat → Int32} {x4 : Int32} {I : am_MI} {J : am_MJ} (h : INV I J) : w_case2 L0 xs x4 I J INV := by
  unfold w_case2 w_B_state w_M_state
  dsimp only
  rw [pu_f (by decide), pu_f (by decide)]
  have hc := h.code 0
  obtain ⟨c, -, -, -, -, -, a6⟩ := h
  rcases a6 with ⟨e1, e2⟩ | ⟨e1, e2, e3⟩ | ⟨e1, e2, e3, -⟩
  · rw [e1, e2]
    exact ⟨fun z => absurd rfl z, fun _ => ⟨fun _ => hc, fun z => z rfl⟩⟩
  · rw [e1, e2, e3]
    exact ⟨fun _ => ⟨fun _ => ⟨fun _ => hc, fun z => z rfl⟩, fun z => absurd rfl z⟩, fun z => absurd z (by decide)⟩
  · rw [e1, e2, e3]
    exact ⟨fun _ => ⟨fun z => absurd z (by decide), fun _ => ⟨fun _ => hc, fun z => z rfl⟩⟩, fun z => absurd z (by decide)⟩
theorem case3 {L0 : Nat} {xs : Nat → Int32} {x4 : Int32} {I : am_MI} {J : am_MJ} (h : INV I J) : w_case3 L0 xs x4 I J INV := by
  unfold w_case3 w_B_steps w_M_steps
  dsimp only
  have hc := h.code 0
  obtain ⟨c, a1, a2, -⟩ := h
  rw [a1.2.2.1, a2.2.2.1, lg_same]
  exact ⟨fun _ => hc, fun z => z rfl⟩
/-- the power's count set anew, on both sides -/
theorem INV.left {I : am_MI} {J : am_MJ} (h : INV I J) (x y : Int32) : INV (am_ui (am_ui (am_ui I 0 5 x) 28 0 y) 28 6 x) J := by
  obtain ⟨c, a1, a2, a3, a4, a5, a6⟩ := h
  have k0 : ∀ f, f ≠ 5 → am_ui (am_ui (am_ui I 0 5 x) 28 0 y) 28 6 x 0 f = I 0 f := fun f hf => by rw [pu_k (by decide), pu_k (by decide), pu_f hf]
  have kk : ∀ k, k ≠ 0 → k ≠ 28 → am_ui (am_ui (am_ui I 0 5 x) 28 0 y) 28 6 x k = I k := fun k p q => by rw [pu_k q, pu_k q, pu_k p]
  have k28 : ∀ f, f ≠ 0 → f ≠ 6 → am_ui (am_ui (am_ui I 0 5 x) 28 0 y) 28 6 x 28 f = I 28 f := fun f p q => by rw [pu_f q, pu_f p, pu_k (by decide)]
  refine ⟨(c.1, c.2.1, x, c.2.2.2), ⟨a1.1, by rw [kk 1 (by decide) (by decide)]; exact a1.2.1, a1.2.2.1, by rw [pu_k (by decide), pu_k (by decide), pu_s], a1.2.2.2.2⟩, ⟨a2.1, by rw [k28 4 (by decide) (by decide)]; exact a2.2.1, a2.2.2.1, pu_s .., a2.2.2.2.2⟩, fun k hk => by rw [kk 3 (by decide) (by decide), kk 29 (by decide) (by decide)]; exact a3 k hk, by rw [kk 1 (by decide) (by decide), k28 2 (by decide) (by decide)]; exact a4, by rw [k28 2 (by decide) (by decide)]; exact a5, ?_⟩
  rw [k0 4 (by decide), k28 7 (by decide) (by decide), k28 8 (by decide) (by decide)]
  exact a6.imp id (Or.imp id (fun ⟨b1, b2, b3, v, cur, t, b4⟩ => ⟨b1, b2, b3, v, cur, t, b4.mv (fun k p q _ => kk k (by omega) q) (fun f p _ q _ _ => k28 f p q) (fun f _ q => k0 f q) (fun _ _ _ _ _ => rfl)⟩))
theorem case1 {L0 : Nat} {xs : Nat → Int32} {x4 : Int32} {I : am_MI} {J : am_MJ} (h0 : 0 ≤ x4.toInt) (h5 : x4.toInt + 5 ≤ L0) (hL : L0 ≤ 2560) (h : INV I J) : w_case1 L0 xs x4 I J INV := by
  unfold w_case1
  refine ⟨xin (j := 1) h0 h5 hL (by omega), ?_⟩
  generalize xs (x4 + 1).toNatClampNeg = a
  unfold w_B_power w_M_power
  have hc := fun x => h.left x 0
  have hd : INV (am_ui (am_ui I 28 0 0) 28 6 (am_ui I 28 0 0 28 6)) J := h.eq (fun k a => (pu_k a ..).trans (pu_k a ..)) (fun f a => by
    by_cases e : f = 6
    · rw [e, pu_s, pu_f (by decide)]
    · rw [pu_f e, pu_f a]) (fun _ _ => rfl)
  obtain ⟨c, a1, a2, a3, a4, a5, a6⟩ := h
  refine ⟨fun e => ⟨xin (j := 1) h0 h5 hL (by omega), ?_⟩, fun e => ⟨fun e2 => ⟨xin (j := 1) h0 h5 hL (by omega), ?_⟩, fun e2 => ⟨xin (j := 1) h0 h5 hL (by omega), ?_⟩⟩⟩
  · have e7 : I 28 7 = 0 := by
      rcases a6 with ⟨-, e2⟩ | ⟨e1, -⟩ | ⟨e1, -⟩
      · exact e2
      · rw [e] at e1; exact absurd e1 (by decide)
      · rw [e] at e1; exact absurd e1 (by decide)
    rw [pu_f (by decide), e7]
    exact ⟨fun _ => hd, fun z => absurd rfl z⟩
  · have e7 : I 28 7 = 1 := by
      rcases a6 with ⟨e1, -⟩ | ⟨-, e2, -⟩ | ⟨-, e2, -⟩
      · exact absurd e1 e
      · exact e2
      · exact e2
    rw [pu_f (by decide), pu_k (by decide), e7]
    exact ⟨fun z => absurd z (by decide), fun _ => ⟨fun _ => hc a, fun z => absurd e2 z⟩⟩
  · have e7 : I 28 7 = 1 := by
      rcases a6 with ⟨e1, -⟩ | ⟨-, e2, -⟩ | ⟨-, e2, -⟩
      · exact absurd e1 e
      · exact e2
      · exact e2
    rw [pu_f (by decide), pu_k (by decide), e7]
    exact ⟨fun z => absurd z (by decide), fun _ => ⟨fun z => absurd z e2, fun _ => hc (-1)⟩⟩
end PU3
