section PU15
/-! bytes of numbers -/
theorem p256 (j : Nat) : 256 ^ j = 2 ^ (8 * j) := by rw [Nat.pow_mul]
theorem by64_lt (x : Int64) (j : Nat) : by64 x j < 256 := Nat.mod_lt _ (by omega)
theorem by32_lt (x : Int32) (j : Nat) : by32 x j < 256 := Nat.mod_lt _ (by omega)
theorem by_bit {a b : Nat} (h : ∀ j, j < 8 → a / 256 ^ j % 256 = b / 256 ^ j % 256) : ∀ i, i < 64 → a.testBit i = b.testBit i := fun i hi => by
  have h := h (i / 8) (by omega)
  rw [p256] at h
  have e : ∀ n : Nat, n.testBit i = (n / 2 ^ (8 * (i / 8)) % 2 ^ 8).testBit (i % 8) := fun n => by
    rw [Nat.testBit_mod_two_pow, Nat.testBit_div_two_pow, decide_eq_true (by omega : i % 8 < 8), Bool.true_and]
    congr 1
    omega
  rw [e a, e b]
  exact congrArg (fun n => n.testBit (i % 8)) h
theorem by64_ext {x y : Int64} (h : ∀ j, j < 8 → by64 x j = by64 y j) : x = y := by
  apply Int64.toBitVec_inj.mp
  apply BitVec.eq_of_getLsbD_eq
  intro i hi
  exact by_bit h i hi
theorem by_bit4 {a b : Nat} (h : ∀ j, j < 4 → a / 256 ^ j % 256 = b / 256 ^ j % 256) : ∀ i, i < 32 → a.testBit i = b.testBit i := fun i hi => by
  have h := h (i / 8) (by omega)
  rw [p256] at h
  have e : ∀ n : Nat, n.testBit i = (n / 2 ^ (8 * (i / 8)) % 2 ^ 8).testBit (i % 8) := fun n => by
    rw [Nat.testBit_mod_two_pow, Nat.testBit_div_two_pow, decide_eq_true (by omega : i % 8 < 8), Bool.true_and]
    congr 1
    omega
  rw [e a, e b]
  exact congrArg (fun n => n.testBit (i % 8)) h
theorem by32_ext {x y : Int32} (h : ∀ j, j < 4 → by32 x j = by32 y j) : x = y := by
  apply Int32.toBitVec_inj.mp
  apply BitVec.eq_of_getLsbD_eq
  intro i hi
  exact by_bit4 h i hi
theorem by_or (a b j : Nat) : (a ||| b) / 256 ^ j % 256 = (a / 256 ^ j % 256) ||| (b / 256 ^ j % 256) := by
  rw [p256, ← Nat.shiftRight_eq_div_pow, ← Nat.shiftRight_eq_div_pow, ← Nat.shiftRight_eq_div_pow, Nat.shiftRight_or_distrib, ← and255, ← and255, ← and255, Nat.and_or_distrib_right]
theorem by_sh {b m j : Nat} (hb : b < 256) : (b * 256 ^ m) / 256 ^ j % 256 = if j = m then b else 0 := by
  by_cases e : j = m
  · rw [if_pos e, e, Nat.mul_div_cancel _ (Nat.pow_pos (by omega)), Nat.mod_eq_of_lt hb]
  · rw [if_neg e]
    by_cases h : j < m
    · obtain ⟨d, rfl⟩ : ∃ d, m = j + 1 + d := ⟨m - j - 1, by omega⟩
      rw [show b * 256 ^ (j + 1 + d) = (b * 256 ^ d * 256) * 256 ^ j by rw [Nat.pow_add, Nat.pow_succ]; simp only [Nat.mul_assoc, Nat.mul_comm, Nat.mul_left_comm], Nat.mul_div_cancel _ (Nat.pow_pos (by omega))]
      omega
    · obtain ⟨d, rfl⟩ : ∃ d, j = m + 1 + d := ⟨j - m - 1, by omega⟩
      have : b * 256 ^ m / 256 ^ (m + 1 + d) = 0 := by
        apply Nat.div_eq_of_lt
        rw [show m + 1 + d = m + (1 + d) by omega, Nat.pow_add, Nat.mul_comm b]
        apply Nat.mul_lt_mul_of_pos_left
        · have : 256 ^ 1 ≤ 256 ^ (1 + d) := Nat.pow_le_pow_right (by omega) (by omega)
          omega
        · exact Nat.pow_pos (by omega)
      rw [this]
theorem or0 {a b : Nat} (h : a = 0) : a ||| b = b := by rw [h, Nat.zero_or]
theorem by64_or {y : Int64} {b m j : Nat} (hb : b < 256) (hm : m < 8) (h0 : by64 y m = 0) : by64 (y ||| ((lN b) <<< (((8 : Int32) * nI m).toInt64 &&& 63))) j = if j = m then b else by64 y j := by
  unfold by64 at h0 ⊢
  rw [Int64.toBitVec_or, BitVec.toNat_or, by_or, Int64.toBitVec_shiftLeft]
  have e : (((8 : Int32) * nI m).toInt64 &&& 63).toBitVec.smod 64 = BitVec.ofNat 64 (8 * m) := nat8 hm (fun i => (((8 : Int32) * nI i).toInt64 &&& 63).toBitVec.smod 64 = BitVec.ofNat 64 (8 * i)) rfl rfl rfl rfl rfl rfl rfl rfl
  have e2 : ((lN b).toBitVec <<< ((((8 : Int32) * nI m).toInt64 &&& 63).toBitVec.smod 64)).toNat = b * 256 ^ m := by
    rw [e, BitVec.shiftLeft_eq', BitVec.toNat_shiftLeft, BitVec.toNat_ofNat, Nat.mod_eq_of_lt (a := 8 * m) (by omega)]
    show (BitVec.ofNat 64 b).toNat <<< (8 * m) % 2 ^ 64 = _
    rw [BitVec.toNat_ofNat, Nat.mod_eq_of_lt (a := b) (by omega), Nat.shiftLeft_eq, ← p256]
    apply Nat.mod_eq_of_lt
    have h1 : 256 ^ m ≤ 256 ^ 7 := Nat.pow_le_pow_right (by omega) (by omega)
    calc b * 256 ^ m ≤ 255 * 256 ^ 7 := Nat.mul_le_mul (by omega) h1
      _ < 2 ^ 64 := by decide
  rw [e2, by_sh hb]
  by_cases ej : j = m
  · rw [if_pos ej, if_pos ej, ej, h0, Nat.zero_or]
  · rw [if_neg ej, if_neg ej, Nat.or_zero]
theorem by32_or {y : Int32} {b m j : Nat} (hb : b < 256) (hm : m < 4) (h0 : by32 y m = 0) : by32 (y ||| ((nI b) <<< (((8 : Int32) * nI m) &&& 31))) j = if j = m then b else by32 y j := by
  unfold by32 at h0 ⊢
  rw [Int32.toBitVec_or, BitVec.toNat_or, by_or, Int32.toBitVec_shiftLeft]
  have e : (((8 : Int32) * nI m) &&& 31).toBitVec.smod 32 = BitVec.ofNat 32 (8 * m) := by
    match m, hm with
    | 0, _ => rfl
    | 1, _ => rfl
    | 2, _ => rfl
    | 3, _ => rfl
  have e2 : ((nI b).toBitVec <<< ((((8 : Int32) * nI m) &&& 31).toBitVec.smod 32)).toNat = b * 256 ^ m := by
    rw [e, BitVec.shiftLeft_eq', BitVec.toNat_shiftLeft, BitVec.toNat_ofNat, Nat.mod_eq_of_lt (a := 8 * m) (by omega)]
    show (BitVec.ofNat 32 b).toNat <<< (8 * m) % 2 ^ 32 = _
    rw [BitVec.toNat_ofNat, Nat.mod_eq_of_lt (a := b) (by omega), Nat.shiftLeft_eq, ← p256]
    apply Nat.mod_eq_of_lt
    have h1 : 256 ^ m ≤ 256 ^ 3 := Nat.pow_le_pow_right (by omega) (by omega)
    calc b * 256 ^ m ≤ 255 * 256 ^ 3 := Nat.mul_le_mul (by omega) h1
      _ < 2 ^ 32 := by decide
  rw [e2, by_sh hb]
  by_cases ej : j = m
  · rw [if_pos ej, if_pos ej, ej, h0, Nat.zero_or]
  · rw [if_neg ej, if_neg ej, Nat.or_zero]
theorem by_p {x : Int32} {k : Nat} (hk : k < 4) : ((x.toUInt32 >>> (((8 : Int32) * nI k).toUInt32 &&& Int32.toUInt32 31)).toInt32) &&& (255 : Int32) = nI (by32 x k) := by
  apply Int32.toBitVec_inj.mp
  apply BitVec.eq_of_toNat_eq
  have e : (((8 : Int32) * nI k).toUInt32 &&& Int32.toUInt32 31).toBitVec % 32 = BitVec.ofNat 32 (8 * k) := by
    match k, hk with
    | 0, _ => rfl
    | 1, _ => rfl
    | 2, _ => rfl
    | 3, _ => rfl
  unfold by32
  rw [Int32.toBitVec_and, BitVec.toNat_and, UInt32.toBitVec_toInt32, UInt32.toBitVec_shiftRight, e, BitVec.ushiftRight_eq', BitVec.toNat_ushiftRight, BitVec.toNat_ofNat, Nat.mod_eq_of_lt (a := 8 * k) (by omega), Nat.shiftRight_eq_div_pow, nI_byte, p256]
  show _ &&& 255 = _
  rw [and255]
  rfl
theorem by64_n {n j : Nat} (h : n < 2 ^ 64) : by64 (lN n) j = n / 256 ^ j % 256 := by
  unfold by64
  show (BitVec.ofNat 64 n).toNat / 256 ^ j % 256 = _
  rw [BitVec.toNat_ofNat, Nat.mod_eq_of_lt h]
theorem by32_n {n j : Nat} (h : n < 2 ^ 32) : by32 (nI n) j = n / 256 ^ j % 256 := by
  unfold by32
  show (BitVec.ofNat 32 n).toNat / 256 ^ j % 256 = _
  rw [BitVec.toNat_ofNat, Nat.mod_eq_of_lt h]
theorem by64_z (j : Nat) : by64 0 j = 0 := by
  show 0 / 256 ^ j % 256 = 0
  rw [Nat.zero_div]
theorem by32_z (j : Nat) : by32 0 j = 0 := by
  show 0 / 256 ^ j % 256 = 0
  rw [Nat.zero_div]
theorem by64_i {x : Int32} {j : Nat} (h : j < 4) : by64 x.toInt64 j = by32 x j := by
  unfold by64 by32
  rw [Int32.toBitVec_toInt64]
  have : ((x.toBitVec.signExtend 64).toNat) % 2 ^ 32 = x.toBitVec.toNat := by
    rw [← BitVec.toNat_setWidth]
    congr 1
    apply BitVec.eq_of_getLsbD_eq
    intro i hi
    rw [BitVec.getLsbD_setWidth, BitVec.getLsbD_signExtend]
    simp [hi]
    intro _; omega
  rw [← this, p256]
  generalize (x.toBitVec.signExtend 64).toNat = n
  match j, h with
  | 0, _ => omega
  | 1, _ => omega
  | 2, _ => omega
  | 3, _ => omega
/-- the shift of a page's bytes by one -/
theorem by64_sh {y : Int64} {b : Nat} (hb : b < 256) : ∀ j, j < 8 → by64 ((y <<< ((8 : Int32).toInt64 &&& 63)) ||| lN b) j = if j = 0 then b else by64 y (j - 1) := by
  intro j hj
  unfold by64
  rw [Int64.toBitVec_or, BitVec.toNat_or, by_or, Int64.toBitVec_shiftLeft]
  have e : ((8 : Int32).toInt64 &&& 63).toBitVec.smod 64 = BitVec.ofNat 64 8 := rfl
  rw [e, BitVec.shiftLeft_eq', BitVec.toNat_shiftLeft]
  show (y.toBitVec.toNat <<< 8 % 2 ^ 64) / 256 ^ j % 256 ||| (BitVec.ofNat 64 b).toNat / 256 ^ j % 256 = _
  rw [BitVec.toNat_ofNat, Nat.mod_eq_of_lt (a := b) (by omega), Nat.shiftLeft_eq]
  have hb2 := by_sh (m := 0) (j := j) hb
  rw [Nat.pow_zero, Nat.mul_one] at hb2
  rw [hb2]
  generalize y.toBitVec.toNat = n
  by_cases e0 : j = 0
  · rw [if_pos e0, if_pos e0, e0]
    have : n * 2 ^ 8 % 2 ^ 64 / 256 ^ 0 % 256 = 0 := by omega
    rw [this, Nat.zero_or]
  · rw [if_neg e0, if_neg e0, Nat.or_zero]
    match j, hj with
    | 0, _ => omega
    | 1, _ => show n * 2 ^ 8 % 2 ^ 64 / 256 % 256 = n / 1 % 256; omega
    | 2, _ => show n * 2 ^ 8 % 2 ^ 64 / 65536 % 256 = n / 256 % 256; omega
    | 3, _ => show n * 2 ^ 8 % 2 ^ 64 / 16777216 % 256 = n / 65536 % 256; omega
    | 4, _ => show n * 2 ^ 8 % 2 ^ 64 / 4294967296 % 256 = n / 16777216 % 256; omega
    | 5, _ => show n * 2 ^ 8 % 2 ^ 64 / 1099511627776 % 256 = n / 4294967296 % 256; omega
    | 6, _ => show n * 2 ^ 8 % 2 ^ 64 / 281474976710656 % 256 = n / 1099511627776 % 256; omega
    | 7, _ => show n * 2 ^ 8 % 2 ^ 64 / 72057594037927936 % 256 = n / 281474976710656 % 256; omega
/-- the page with the bytes e (8 x), e (8 x + 1), .. -/
def pgv (e : Nat → Nat) (x : Nat) : Int64 := lN (e (8 * x) + 256 * e (8 * x + 1) + 65536 * e (8 * x + 2) + 16777216 * e (8 * x + 3) + 4294967296 * e (8 * x + 4) + 1099511627776 * e (8 * x + 5) + 281474976710656 * e (8 * x + 6) + 72057594037927936 * e (8 * x + 7))
theorem by_pgv {e : Nat → Nat} (he : ∀ i, e i < 256) {x j : Nat} (hj : j < 8) : by64 (pgv e x) j = e (8 * x + j) := by
  unfold pgv
  have h0 := he (8 * x)
  have h1 := he (8 * x + 1)
  have h2 := he (8 * x + 2)
  have h3 := he (8 * x + 3)
  have h4 := he (8 * x + 4)
  have h5 := he (8 * x + 5)
  have h6 := he (8 * x + 6)
  have h7 := he (8 * x + 7)
  rw [by64_n (by omega)]
  match j, hj with
  | 0, _ => show _ / 1 % 256 = e (8 * x); omega
  | 1, _ => show _ / 256 % 256 = _; omega
  | 2, _ => show _ / 65536 % 256 = _; omega
  | 3, _ => show _ / 16777216 % 256 = _; omega
  | 4, _ => show _ / 4294967296 % 256 = _; omega
  | 5, _ => show _ / 1099511627776 % 256 = _; omega
  | 6, _ => show _ / 281474976710656 % 256 = _; omega
  | 7, _ => show _ / 72057594037927936 % 256 = _; omega
theorem pgv_of {e : Nat → Nat} (he : ∀ i, e i < 256) {x : Nat} {y : Int64} (h : ∀ j, j < 8 → by64 y j = e (8 * x + j)) : y = pgv e x := by64_ext (fun j hj => (h j hj).trans (by_pgv he hj).symm)
/-! images, the class's side -/
def rI (z : Nat) (e : Nat → Nat) (J : am_MJ) : Prop := ∀ i, i < 160 → by64 (J (25 + 2 * z) (i / 8)) (i % 8) = e i
section
variable {z : Nat} {e e' : Nat → Nat} {c : CH} {v : VT} {I : am_MI} {J : am_MJ}
theorem rI.cg (h : rI z e J) (g : ∀ i, i < 160 → e i = e' i) : rI z e' J := fun i hi => (h i hi).trans (g i hi)
theorem rI.lt (h : rI z e J) {i : Nat} (hi : i < 160) : e i < 256 := by rw [← h i hi]; exact by64_lt _ _
theorem s_I_clear {Q : am_MI → am_MJ → Prop} {X : String → am_MI → am_MJ → Prop} (hq : ∀ J', (∀ k, k ≠ 25 + 2 * z → J' k = J k) → rI z (fun _ => 0) J' → Q I J') : w_I_clear z I J Q X := by
  unfold w_I_clear w_I_clear_2
  intro P hP
  have key : ∀ m x J1, x + m = 20 → (∀ k, k ≠ 25 + 2 * z → J1 k = J k) → (∀ y, y < x → J1 (25 + 2 * z) y = 0) → P (nI x) I J1 := by
    intro m
    induction m with
    | zero =>
      intro x J1 hx k1 k2
      obtain rfl : x = 20 := by omega
      refine hP _ _ _ (br_t (nI_le (a := 20) (by omega) (by omega)) (hq J1 k1 (fun i hi => ?_)))
      rw [k2 (i / 8) (by omega)]; exact by64_z _
    | succ m ih =>
      intro x J1 hx k1 k2
      refine hP _ _ _ (br_f (nI_ge (b := 20) (by omega) (by omega)) ⟨vp_in_nI (by omega) (by omega), ?_⟩)
      rw [nI_clamp (by omega), nI_1]
      refine ih (x + 1) _ (by omega) (fun k hk => by rw [pj_k hk]; exact k1 k hk) (fun y hy => ?_)
      by_cases ey : y = x
      · rw [ey, pj_s]
      · rw [pj_f ey]; exact k2 y (by omega)
  exact key 20 0 J (by omega) (fun _ _ => rfl) (fun y hy => absurd hy (by omega))
theorem s_I_putNumber {Q : am_MI → am_MJ → Prop} {X : String → am_MI → am_MJ → Prop} {a n : Nat} {x : Int32} (hn : n ≤ 4) (ha : a + n ≤ 160) (hr : rI z e J) (h0 : ∀ k, k < n → e (a + k) = 0)
    (hq : ∀ J', (∀ k, k ≠ 25 + 2 * z → J' k = J k) → rI z (fun i => if a ≤ i ∧ i < a + n then by32 x (i - a) else e i) J' → Q I J') : w_I_putNumber z (nI a) (nI n) x I J Q X := by
  unfold w_I_putNumber w_I_putNumber_3
  intro P hP
  have key : ∀ m k J1, k + m = n → (∀ k, k ≠ 25 + 2 * z → J1 k = J k) → rI z (fun i => if a ≤ i ∧ i < a + k then by32 x (i - a) else e i) J1 → P (nI k) I J1 := by
    intro m
    induction m with
    | zero =>
      intro k J1 hk k1 k2
      obtain rfl : k = n := by omega
      exact hP _ _ _ (br_t (nI_le (Nat.le_refl _) (by omega)) (hq J1 k1 k2))
    | succ m ih =>
      intro k J1 hk k1 k2
      have ed : nI (a + k) / 8 = nI ((a + k) / 8) := pk_div (d := 8) (by omega) (by omega) (by omega)
      have er : nI (a + k) - nI (a + k) / 8 * 8 = nI ((a + k) % 8) := pk_rem (d := 8) (by omega) (by omega) (by omega)
      refine hP _ _ _ (br_f (nI_ge (by omega) (by omega)) ?_)
      have hb := by32_lt x k
      rw [nI_add, er, ed, nI_clamp (by omega), by_p (by omega), nI_l (by omega), nI_1]
      refine ⟨vp_in_nI (by omega) (by omega), vp_in_nI (by omega) (by omega), ih (k + 1) _ (by omega) (fun k' hk' => by rw [pj_k hk']; exact k1 k' hk') (fun i hi => ?_)⟩
      have hz : by64 (J1 (25 + 2 * z) ((a + k) / 8)) ((a + k) % 8) = 0 := by
        refine (k2 (a + k) (by omega)).trans ((if_neg (by omega)).trans (h0 k (by omega)))
      show by64 _ (i % 8) = if a ≤ i ∧ i < a + (k + 1) then by32 x (i - a) else e i
      by_cases ei : i = a + k
      · rw [ei, pj_s, by64_or hb (by omega) hz, if_pos rfl, if_pos (by omega), show a + k - a = k by omega]
      · have old : by64 (J1 (25 + 2 * z) (i / 8)) (i % 8) = if a ≤ i ∧ i < a + k then by32 x (i - a) else e i := k2 i hi
        have e2 : (if a ≤ i ∧ i < a + (k + 1) then by32 x (i - a) else e i) = if a ≤ i ∧ i < a + k then by32 x (i - a) else e i := by
          by_cases h : a ≤ i ∧ i < a + k
          · rw [if_pos h, if_pos (by omega)]
          · rw [if_neg h, if_neg (by omega)]
        rw [e2, ← old]
        by_cases ep : i / 8 = (a + k) / 8
        · rw [ep, pj_s, by64_or hb (by omega) hz, if_neg (by omega)]
        · rw [pj_f ep]
  exact key n 0 J (by omega) (fun _ _ => rfl) (hr.cg (fun i _ => by rw [if_neg (by omega)]))
theorem s_I_number {Q : Int32 → am_MI → am_MJ → Prop} {X : String → am_MI → am_MJ → Prop} {a n : Nat} (hn : n ≤ 4) (ha : a + n ≤ 160) (hr : rI z e J)
    (hq : ∀ r, (∀ k, by32 r k = if k < n then e (a + k) else 0) → Q r I J) : w_I_number z (nI a) (nI n) I J Q X := by
  unfold w_I_number w_I_number_5
  intro P hP
  have key : ∀ m k (x : Int32), k + m = n → (∀ j, by32 x j = if j < k then e (a + j) else 0) → P x (nI k) I J := by
    intro m
    induction m with
    | zero =>
      intro k x hk hx
      obtain rfl : k = n := by omega
      exact hP _ _ _ _ (br_t (nI_le (Nat.le_refl _) (by omega)) (hq x hx))
    | succ m ih =>
      intro k x hk hx
      have ed : nI (a + k) / 8 = nI ((a + k) / 8) := pk_div (d := 8) (by omega) (by omega) (by omega)
      have er : nI (a + k) - nI (a + k) / 8 * 8 = nI ((a + k) % 8) := pk_rem (d := 8) (by omega) (by omega) (by omega)
      refine hP _ _ _ _ (br_f (nI_ge (by omega) (by omega)) ?_)
      rw [nI_add, er, ed, nI_clamp (by omega), by_c (by omega), hr (a + k) (by omega), nI_1]
      refine ⟨vp_in_nI (by omega) (by omega), ih (k + 1) _ (by omega) (fun j => ?_)⟩
      rw [by32_or (hr.lt (by omega)) (by omega) (by rw [hx, if_neg (by omega)]), hx]
      by_cases ej : j = k
      · rw [if_pos ej, if_pos (by omega), ej]
      · rw [if_neg ej]
        by_cases h : j < k
        · rw [if_pos h, if_pos (by omega)]
        · rw [if_neg h, if_neg (by omega)]
  exact key n 0 0 (by omega) (fun j => by rw [if_neg (by omega)]; exact by32_z j)
theorem num1 {r : Int32} {x : Nat} (hx : x < 256) (h : ∀ k, by32 r k = if k < 1 then x else 0) : r = nI x := by
  apply by32_ext
  intro j hj
  rw [h, by32_n (by omega)]
  match j, hj with
  | 0, _ => show x = x / 1 % 256; omega
  | 1, _ => show 0 = x / 256 % 256; omega
  | 2, _ => show 0 = x / 65536 % 256; omega
  | 3, _ => show 0 = x / 16777216 % 256; omega
theorem num2 {r : Int32} {x y : Nat} (hx : x < 256) (hy : y < 256) (h0 : by32 r 0 = x) (h1 : by32 r 1 = y) (h2 : by32 r 2 = 0) (h3 : by32 r 3 = 0) : r = nI (x + 256 * y) := by
  apply by32_ext
  intro j hj
  rw [by32_n (by omega)]
  match j, hj with
  | 0, _ => show _ = _ / 1 % 256; omega
  | 1, _ => show _ = _ / 256 % 256; omega
  | 2, _ => show _ = _ / 65536 % 256; omega
  | 3, _ => show _ = _ / 16777216 % 256; omega
theorem s_I_num1 {Q : Int32 → am_MI → am_MJ → Prop} {X : String → am_MI → am_MJ → Prop} {a : Nat} (ha : a < 160) (hr : rI z e J) (hq : Q (nI (e a)) I J) : w_I_number z (nI a) 1 I J Q X :=
  s_I_number (n := 1) (by omega) (by omega) hr (fun r h => by
    have := num1 (x := e a) (hr.lt ha) (fun k => by
      rw [h k]
      by_cases hk : k < 1
      · rw [if_pos hk, if_pos hk, show a + k = a by omega]
      · rw [if_neg hk, if_neg hk])
    rw [this]; exact hq)
theorem s_I_num2 {Q : Int32 → am_MI → am_MJ → Prop} {X : String → am_MI → am_MJ → Prop} {a : Nat} (ha : a + 2 ≤ 160) (hr : rI z e J) (hq : Q (nI (e a + 256 * e (a + 1))) I J) : w_I_number z (nI a) 2 I J Q X :=
  s_I_number (n := 2) (by omega) (by omega) hr (fun r h => by
    have := num2 (hr.lt (i := a) (by omega)) (hr.lt (i := a + 1) (by omega)) (h 0) (h 1) (h 2) (h 3)
    rw [this]; exact hq)
theorem sumB_le {e : Nat → Nat} : ∀ n, (∀ i, i < n → e i < 256) → sumB e n ≤ 255 * n := by
  intro n
  induction n with
  | zero => intro _; exact Nat.le_refl _
  | succ n ih =>
    intro h
    have := ih (fun i hi => h i (by omega))
    have := h n (by omega)
    show sumB e n + e n ≤ _
    omega
theorem sumB_cg {e e' : Nat → Nat} : ∀ n, (∀ i, i < n → e i = e' i) → sumB e n = sumB e' n := by
  intro n
  induction n with
  | zero => intro _; rfl
  | succ n ih =>
    intro h
    show sumB e n + e n = sumB e' n + e' n
    rw [ih (fun i hi => h i (by omega)), h n (by omega)]
theorem s_I_dueSum {Q : Int32 → am_MI → am_MJ → Prop} {X : String → am_MI → am_MJ → Prop} (hr : rI z e J) (hq : Q (nI (1 + sumB e 158)) I J) : w_I_dueSum z I J Q X := by
  unfold w_I_dueSum w_I_dueSum_4
  intro P hP
  have key : ∀ m k, k + m = 158 → P (nI (1 + sumB e k)) (nI k) I J := by
    intro m
    induction m with
    | zero =>
      intro k hk
      obtain rfl : k = 158 := by omega
      exact hP _ _ _ _ (br_t (nI_le (a := 158) (by omega) (by omega)) hq)
    | succ m ih =>
      intro k hk
      refine hP _ _ _ _ (br_f (nI_ge (b := 158) (by omega) (by omega)) (s_I_num1 (by omega) hr ?_))
      rw [nI_add, nI_1, show 1 + sumB e k + e k = 1 + sumB e (k + 1) from Nat.add_assoc ..]
      exact ih (k + 1) (by omega)
  exact key 158 0 (by omega)
theorem enc0_lt (hv : vOK v) {t : Nat} (ht : t < 256) (i : Nat) : enc0 v t i < 256 := by
  unfold enc0
  split
  · exact ht
  · split
    · split
      · exact by32_lt _ _
      · split
        · unfold fp
          split
          · omega
          · by_cases h : (i - 1) / 7 < 8
            · have := (hv.2.1 _ h 0 (by omega)).2; omega
            · rename_i h57 _ _ _
              omega
        · exact Nat.mod_lt _ (by omega)
    · have := lk_lt hv (i - 57); omega
theorem enc_lt (hv : vOK v) {t : Nat} (ht : t < 256) (i : Nat) : enc v t i < 256 := by
  unfold enc
  split
  · exact enc0_lt hv ht i
  · exact Nat.mod_lt _ (by omega)
theorem rcV.lk (hv : vOK v) (h : rcV v I J) {p : Nat} (hp : p < 101) : I 14 p = nI (lk v p) := by
  by_cases hx : ∃ q, isLk v p q
  · obtain ⟨q, f, hf, i, hi, rfl, rfl⟩ := hx
    rw [lk_of hv hf hi]; exact h.2.2.2.2.2.2.1 f hf i hi
  · have hno : ∀ f, f < 8 → ∀ i, i + 1 < np (vL v f) → vC v f i ≠ p := fun f hf i hi e => hx ⟨_, f, hf, i, hi, e, rfl⟩
    rw [lk_no hno]; exact h.2.2.2.2.2.2.2.1 p hp hno
theorem fp_lt (hv : vOK v) {f : Nat} (hf : f < 8) : fp v f < 101 := by
  unfold fp
  split
  · omega
  · exact (hv.2.1 f hf 0 (by omega)).2
theorem enc0_at {t f r : Nat} (hf : f < 8) (hr : r < 7) : enc0 v t (1 + 7 * f + r) = if r < 4 then by32 (vN v f) r else if r = 4 then fp v f else vL v f / 256 ^ (r - 5) % 256 := by
  unfold enc0
  rw [if_neg (by omega), if_pos (by omega), show (1 + 7 * f + r - 1) / 7 = f by omega, show (1 + 7 * f + r - 1) % 7 = r by omega]
theorem enc0_lk {t p : Nat} : enc0 v t (57 + p) = lk v p := by
  unfold enc0
  rw [if_neg (by omega), if_neg (by omega), show 57 + p - 57 = p by omega]
theorem s_D_putInto {Q : am_MI → am_MJ → Prop} {X : String → am_MI → am_MJ → Prop} {t : Nat} (hz : z < 2) (ht : t < 256) (hv : vOK v) (hc : rcV v I J)
    (hq : ∀ J', (∀ k, k ≠ 25 + 2 * z → J' k = J k) → rI z (enc v t) J' → Q I J') : w_D_putInto z (nI t) I J Q X := by
  unfold w_D_putInto
  refine s_I_clear (fun J1 a1 a2 => s_I_putNumber (a := 0) (n := 1) (by omega) (by omega) a2 (fun _ _ => rfl) (fun J2 b1 b2 => ?_))
  unfold w_D_putInto_13
  intro P hP
  have b2 : rI z (fun i => if i < 1 + 7 * 0 then enc0 v t i else 0) J2 := b2.cg (fun i hi => by
    by_cases h : i = 0
    · subst h
      show by32 (nI t) 0 = t
      rw [by32_n (by omega)]
      show t / 1 % 256 = t
      omega
    · rw [if_neg (by omega), if_neg (by omega)])
  have b1 : ∀ k, k ≠ 25 + 2 * z → J2 k = J k := fun k hk => (b1 k hk).trans (a1 k hk)
  have key : ∀ m f J3, f + m = 8 → (∀ k, k ≠ 25 + 2 * z → J3 k = J k) → rI z (fun i => if i < 1 + 7 * f then enc0 v t i else 0) J3 → P (nI f) I J3 := by
    intro m
    induction m with
    | zero =>
      intro f J3 hf k1 k2
      obtain rfl : f = 8 := by omega
      refine hP _ _ _ (br_t (nI_le (a := 8) (by omega) (by omega)) ?_)
      unfold w_D_putInto_83
      intro P2 hP2
      have key2 : ∀ m p J4, p + m = 101 → (∀ k, k ≠ 25 + 2 * z → J4 k = J k) → rI z (fun i => if i < 57 + p then enc0 v t i else 0) J4 → P2 (nI p) I J4 := by
        intro m
        induction m with
        | zero =>
          intro p J4 hp k1 k2
          obtain rfl : p = 101 := by omega
          refine hP2 _ _ _ (br_t (nI_le (a := 101) (by omega) (by omega)) (s_I_dueSum k2 (s_I_putNumber (a := 158) (n := 2) (by omega) (by omega) k2 (fun k hk => if_neg (by omega)) (fun J5 g1 g2 => hq J5 (fun k hk => (g1 k hk).trans (k1 k hk)) (g2.cg (fun i hi => ?_))))))
          have es : sumB (fun i => if i < 57 + 101 then enc0 v t i else 0) 158 = sumB (enc0 v t) 158 := sumB_cg 158 (fun i hi => if_pos (by omega))
          have := sumB_le (e := enc0 v t) 158 (fun i _ => enc0_lt hv ht i)
          unfold enc
          by_cases h : i < 158
          · rw [if_neg (by omega), if_pos (by omega), if_pos h]
          · rw [if_pos (by omega), if_neg h, es, by32_n (by omega)]
        | succ m ih =>
          intro p J4 hp k1 k2
          refine hP2 _ _ _ (br_f (nI_ge (b := 101) (by omega) (by omega)) ⟨vp_in_nI (by omega) (by omega), ?_⟩)
          have hl := lk_lt hv p
          rw [nI_clamp (by omega), hc.lk hv (by omega), show (57 : Int32) = nI 57 from rfl, nI_add, nI_1]
          refine s_I_putNumber (n := 1) (by omega) (by omega) k2 (fun k hk => if_neg (by omega)) (fun J5 g1 g2 => ih (p + 1) J5 (by omega) (fun k hk => (g1 k hk).trans (k1 k hk)) (g2.cg (fun i hi => ?_)))
          by_cases h : i = 57 + p
          · rw [if_pos (by omega), if_pos (by omega), h, enc0_lk, by32_n (by omega), show 57 + p - (57 + p) = 0 by omega]
            show lk v p / 1 % 256 = _
            omega
          · rw [if_neg (by omega)]
            by_cases h2 : i < 57 + p
            · rw [if_pos h2, if_pos (by omega)]
            · rw [if_neg h2, if_neg (by omega)]
      exact key2 101 0 J3 (by omega) k1 k2
    | succ m ih =>
      intro f J3 hf k1 k2
      have hf8 : f < 8 := by omega
      have hl := hv.len hf8
      have hfp := fp_lt hv hf8
      have e1 : I (6 + f) 0 = vN v f := hc.1 f hf8
      have e2 : I (6 + f) 1 = nI (fp v f) := hc.2.2.1 f hf8
      have e3 : I (6 + f) 2 = nI (vL v f) := hc.2.1 f hf8
      refine hP _ _ _ (br_f (nI_ge (b := 8) (by omega) (by omega)) ⟨vp_in_nI (by omega) (by omega), ?_⟩)
      have m1 : (1 : Int32) + nI f * 7 = nI (1 + f * 7) := by rw [show (7 : Int32) = nI 7 from rfl, show (1 : Int32) = nI 1 from rfl, pk_mul, nI_add]
      rw [nI_clamp (by omega), m1, show (5 : Int32) = nI 5 from rfl, nI_add, e1, nI_1]
      show w_I_putNumber z (nI (1 + f * 7)) (nI 4) (vN v f) I J3 _ _
      refine s_I_putNumber (by omega) (by omega) k2 (fun k hk => if_neg (by omega)) (fun J4 g1 g2 => ?_)
      rw [e2, show nI (1 + f * 7) + 4 = nI (1 + f * 7 + 4) from nI_add _ 4]
      refine s_I_putNumber (n := 1) (by omega) (by omega) g2 (fun k hk => by rw [if_neg (by omega), if_neg (by omega)]) (fun J5 g3 g4 => ?_)
      rw [e3]
      refine s_I_putNumber (n := 2) (by omega) (by omega) g4 (fun k hk => by rw [if_neg (by omega), if_neg (by omega), if_neg (by omega)]) (fun J6 g5 g6 => ih (f + 1) J6 (by omega) (fun k hk => (g5 k hk).trans ((g3 k hk).trans ((g1 k hk).trans (k1 k hk)))) (g6.cg (fun i hi => ?_)))
      by_cases h : i < 1 + 7 * f
      · rw [if_neg (by omega), if_neg (by omega), if_neg (by omega), if_pos h, if_pos (by omega)]
      · by_cases h2 : i < 1 + 7 * (f + 1)
        · obtain ⟨r, hr, rfl⟩ : ∃ r, r < 7 ∧ i = 1 + 7 * f + r := ⟨i - (1 + 7 * f), by omega, by omega⟩
          rw [if_pos h2, enc0_at hf8 hr]
          by_cases r4 : r < 4
          · rw [if_neg (by omega), if_neg (by omega), if_pos (by omega), if_pos r4, show 1 + 7 * f + r - (1 + f * 7) = r by omega]
          · by_cases r5 : r = 4
            · rw [if_neg (by omega), if_pos (by omega), if_neg r4, if_pos r5, by32_n (by omega), show 1 + 7 * f + r - (1 + f * 7 + 4) = 0 by omega]
              show fp v f / 1 % 256 = _
              omega
            · rw [if_pos (by omega), if_neg r4, if_neg r5, by32_n (by omega), show 1 + 7 * f + r - (1 + f * 7 + 5) = r - 5 by omega]
        · rw [if_neg (by omega), if_neg (by omega), if_neg (by omega), if_neg h, if_neg h2]
  exact key 8 0 J2 (by omega) b1 b2
end
end PU15
