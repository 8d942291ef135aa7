section PU23
/-! mount, the class -/
def rd : Nat → CH → CH
  | 0, c => c
  | m + 1, c => ch_go (rd m c) m
theorem rd_d : ∀ m {c : CH}, (rd m c).2.2.2 = c.2.2.2 := by
  intro m
  induction m with
  | zero => intro c; rfl
  | succ m ih => intro c; exact ih
theorem rd_l : ∀ m {c : CH}, c.2.2.1 = -1 → (rd m c).2.2.1 = -1 := by
  intro m
  induction m with
  | zero => intro c h; exact h
  | succ m ih =>
    intro c h
    show (if (rd m c).2.2.1 ≤ 0 then (rd m c).2.2.1 else (rd m c).2.2.1 - 1) = -1
    rw [ih h]
    rfl
/-- switched on, nothing mounted -/
def bR (c : CH) (bd : Nat → Int32) (I : am_MI) (J : am_MJ) : Prop := rcC c I J ∧ rcV v0 I J ∧ rcQ q0 I J ∧ I 0 4 = 1 ∧ I 1 2 = 1 ∧ ∀ k, k < 69 → I 3 k = bd k
def eD (d : Nat → Int64) (z i : Nat) : Nat := by64 (d (20 * z + i / 8)) (i % 8)
def vl (e : Nat → Nat) : Prop := e 158 + 256 * e 159 = 1 + sumB e 158
def vM (v : VT) : VT := (vN v, vL v, vC v, fun _ => 0, fun _ => 0, fun _ => false, fun _ => false)
section
variable {z : Nat} {c c' : CH} {v v' : VT} {cur t : Nat} {q : QT} {bd : Nat → Int32} {e : Nat → Nat} {d : Nat → Int64} {I I' : am_MI} {J J' : am_MJ}
theorem vOK.vM (h : vOK v) : vOK (vM v) := ⟨h.1, h.2.1, h.2.2.1, fun _ _ w => absurd rfl w, fun _ _ w => Bool.noConfusion w⟩
theorem bR.go (h : bR c bd I J) (hc : rcC c' I' J') (g : fB I J I' J') : bR c' bd I' J' := by
  obtain ⟨a1, a2, a3, a6, a7, a8⟩ := h
  obtain ⟨g1, g2, g3, g4⟩ := g
  refine ⟨hc, a2.mv (fun k _ _ => g1 k (by omega) (by omega)) (fun k _ _ => g4 k (by omega) (by omega)), a3.mv (g1 17 (by omega) (by omega)) (g1 18 (by omega) (by omega)) (g1 19 (by omega) (by omega)) (g4 20 (by omega) (by omega)) (g4 22 (by omega) (by omega)), (g2 4 (by decide)).trans a6, (g3 2 (by decide)).trans a7, fun k hk => ?_⟩
  rw [g1 3 (by omega) (by omega)]; exact a8 k hk
theorem bR.j (hb : bR c bd I J) {z : Nat} (hz : z < 2) (g : ∀ k, k ≠ 25 + 2 * z → J' k = J k) : bR c bd I J' := by
  obtain ⟨a1, a2, a3, a6, a7, a8⟩ := hb
  exact ⟨a1.mv rfl (by rw [g 1 (by omega)]) rfl (g 2 (by omega)), a2.mv (fun k _ _ => rfl) (fun k _ _ => g k (by omega)), a3.mv rfl rfl rfl (g 20 (by omega)) (g 22 (by omega)), a6, a7, a8⟩
theorem s_B_readImages {Q : am_MI → am_MJ → Prop} {X : String → am_MI → am_MJ → Prop} (hb : bR c bd I J) (hl : c.2.2.1 = -1)
    (hq : ∀ I' J', bR (rd 40 c) bd I' J' → (∀ y, y < 40 → J' (25 + 2 * (y / 20)) (y % 20) = c.2.2.2 y) → kM I J I' J' → Q I' J') : w_B_readImages I J Q X := by
  unfold w_B_readImages w_B_readImages_2
  intro P hP
  have key9 : ∀ z, z < 2 → ∀ P9 : Int32 → am_MI → am_MJ → Prop, (∀ (x2 : Int32) (I : am_MI) (J : am_MJ), (((20 : Int32) ≤ x2 → (P (nI z + 1) I J)) ∧ (¬ ((20 : Int32) ≤ x2) → (vp_in (nI z) 2 ∧ (w_B_readPage ((nI z * (20 : Int32)) + x2) I J (fun (r6 : Int64) (I4 : am_MI) (J5 : am_MJ) => vp_in x2 20 ∧ (P9 (x2 + 1) I4 (am_uj J5 (25 + 2 * (nI z).toNatClampNeg) x2.toNatClampNeg r6))) X)))) → P9 x2 I J) → (∀ I1 J1, bR (rd (20 * z + 20) c) bd I1 J1 → (∀ y, y < 20 * z + 20 → J1 (25 + 2 * (y / 20)) (y % 20) = c.2.2.2 y) → kM I J I1 J1 → P (nI z + 1) I1 J1) → ∀ m x I1 J1, x + m = 20 → bR (rd (20 * z + x) c) bd I1 J1 → (∀ y, y < 20 * z + x → J1 (25 + 2 * (y / 20)) (y % 20) = c.2.2.2 y) → kM I J I1 J1 → P9 (nI x) I1 J1 := by
    intro z hz P9 h9 hend m
    induction m with
    | zero =>
      intro x I1 J1 hx b1 b2 b3
      obtain rfl : x = 20 := by omega
      exact h9 _ _ _ (br_t (nI_le (a := 20) (by omega) (by omega)) (hend I1 J1 b1 b2 b3))
    | succ m ih =>
      intro x I1 J1 hx b1 b2 b3
      refine h9 _ _ _ (br_f (nI_ge (b := 20) (by omega) (by omega)) ⟨vp_in_nI (by omega) (by omega), ?_⟩)
      rw [show nI z * 20 + nI x = nI (20 * z + x) by rw [show (20 : Int32) = nI 20 from rfl, pk_mul, nI_add, Nat.mul_comm]]
      refine s_B_readPage b1.1 (by omega) (fun h0 => ?_) (fun _ I2 J2 g1 g2 g3 => ⟨vp_in_nI (by omega) (by omega), ?_⟩)
      · rw [rd_l _ hl] at h0; exact absurd h0 (by decide)
      · rw [nI_clamp (by omega), nI_clamp (by omega), nI_1]
        have b4 : bR (rd (20 * z + (x + 1)) c) bd I2 J2 := b1.go g1 g2
        refine ih (x + 1) _ _ (by omega) (b4.j hz (fun k hk => pj_k hk ..)) (fun y hy => ?_) ((b3.tr g2.kM).uj (by omega) _ _)
        by_cases ey : y = 20 * z + x
        · subst ey
          rw [show (20 * z + x) / 20 = z by omega, show (20 * z + x) % 20 = x by omega, pj_s, rd_d]
        · by_cases ez : y / 20 = z
          · rw [ez, pj_f (by omega), g2.2.2.2 _ (by omega) (by omega)]
            have := b2 y (by omega)
            rw [ez] at this
            exact this
          · rw [pj_k (by omega), g2.2.2.2 _ (by omega) (by omega)]
            exact b2 y (by omega)
  have key : ∀ m z I1 J1, z + m = 2 → bR (rd (20 * z) c) bd I1 J1 → (∀ y, y < 20 * z → J1 (25 + 2 * (y / 20)) (y % 20) = c.2.2.2 y) → kM I J I1 J1 → P (nI z) I1 J1 := by
    intro m
    induction m with
    | zero =>
      intro z I1 J1 hz b1 b2 b3
      obtain rfl : z = 2 := by omega
      exact hP _ _ _ (br_t (nI_le (a := 2) (by omega) (by omega)) (hq I1 J1 b1 b2 b3))
    | succ m ih =>
      intro z I1 J1 hz b1 b2 b3
      refine hP _ _ _ (br_f (nI_ge (b := 2) (by omega) (by omega)) ?_)
      unfold w_B_readImages_9
      intro P9 h9
      refine key9 z (by omega) P9 h9 (fun I2 J2 d1 d2 d3 => ?_) 20 0 I1 J1 (by omega) b1 b2 b3
      rw [nI_1]
      exact ih (z + 1) I2 J2 (by omega) (by rw [Nat.mul_add]; exact d1) (fun y hy => d2 y (by omega)) d3
  exact key 2 0 I J (by omega) hb (fun y hy => absurd hy (by omega)) kM.rf
theorem s_I_isValid {Q : Int32 → am_MI → am_MJ → Prop} {X : String → am_MI → am_MJ → Prop} (hr : rI z e J) (h1 : vl e → Q 1 I J) (h0 : ¬ vl e → Q 0 I J) : w_I_isValid z I J Q X := by
  unfold w_I_isValid
  refine s_I_num2 (a := 158) (by omega) hr (s_I_dueSum hr ?_)
  have := sumB_le (e := e) 158 (fun i hi => hr.lt (by omega))
  have ha := hr.lt (i := 158) (by omega)
  have hb : e (158 + 1) < 256 := hr.lt (i := 159) (by omega)
  have en : nI (e 158 + 256 * e (158 + 1)) = nI (1 + sumB e 158) ↔ vl e := nI_eq (by omega) (by omega)
  rw [en]
  exact ⟨h0, h1⟩
theorem dif_c {a b : Nat} (ha : a < 256) (hb : b < 256) : (nI a - nI b) &&& (255 : Int32) = nI ((a + 256 - b) % 256) := by
  have e : (nI a - nI b) &&& (255 : Int32) = (nI (a + 256 - b)) &&& (255 : Int32) := by
    rw [← pk_sub (by omega), ← nI_add]
    apply Int32.toBitVec_inj.mp
    show ((nI a).toBitVec - (nI b).toBitVec) &&& (255 : Int32).toBitVec = (((nI a).toBitVec + (nI 256).toBitVec) - (nI b).toBitVec) &&& (255 : Int32).toBitVec
    generalize (nI a).toBitVec = x
    generalize (nI b).toBitVec = y
    show (x - y) &&& 255#32 = ((x + 256#32) - y) &&& 255#32
    apply BitVec.eq_of_toNat_eq
    have h255 : (255#32).toNat = 255 := rfl
    rw [BitVec.toNat_and, BitVec.toNat_and, h255, and255, and255, BitVec.toNat_sub, BitVec.toNat_sub, BitVec.toNat_add]
    have := x.isLt
    have := y.isLt
    have : (256#32).toNat = 256 := rfl
    rw [this]
    omega
  rw [e]
  exact pk_andN (by omega) 8 rfl
theorem s_B_newestImage {Q : Int32 → am_MI → am_MJ → Prop} {X : String → am_MI → am_MJ → Prop} (h0 : rI 0 (eD d 0) J) (h1 : rI 1 (eD d 1) J)
    (q0 : vl (eD d 0) → (vl (eD d 1) → ¬ (1 ≤ (eD d 1 0 + 256 - eD d 0 0) % 256 ∧ (eD d 1 0 + 256 - eD d 0 0) % 256 ≤ 127)) → Q 0 I J)
    (q1 : vl (eD d 1) → (vl (eD d 0) → 1 ≤ (eD d 1 0 + 256 - eD d 0 0) % 256 ∧ (eD d 1 0 + 256 - eD d 0 0) % 256 ≤ 127) → Q 1 I J)
    (qn : ¬ vl (eD d 0) → ¬ vl (eD d 1) → Q (-1) I J) : w_B_newestImage I J Q X := by
  unfold w_B_newestImage w_B_newestImage_73
  have in0 : vp_in (0 : Int32) 2 := vp_in_nI (n := 0) (by omega) (by omega)
  have in1 : vp_in (1 : Int32) 2 := vp_in_nI (n := 1) (by omega) (by omega)
  rw [show (0 : Int32).toNatClampNeg = 0 from rfl, show (1 : Int32).toNatClampNeg = 1 from rfl]
  refine ⟨in0, s_I_isValid h0 (fun w0 => ⟨in1, s_I_isValid h1 (fun w1 => ?_) (fun w1 => ?_)⟩) (fun w0 => ⟨in1, s_I_isValid h1 (fun w1 => ?_) (fun w1 => ?_)⟩)⟩
  · refine ⟨fun z => absurd z (by decide), fun _ => ⟨fun z => absurd z (by decide), fun _ => ⟨in1, s_I_num1 (a := 0) (by omega) h1 ⟨in0, s_I_num1 (a := 0) (by omega) h0 ?_⟩⟩⟩⟩
    rw [dif_c (h1.lt (by omega)) (h0.lt (by omega))]
    have hm : (eD d 1 0 + 256 - eD d 0 0) % 256 < 256 := Nat.mod_lt _ (by omega)
    rw [show (1 : Int32) = nI 1 from rfl, show (127 : Int32) = nI 127 from rfl, nI_ltI (by omega) (by omega), nI_ltI (by omega) (by omega)]
    refine ⟨fun z => q0 w0 (fun _ => by omega), fun z => ⟨fun y => q0 w0 (fun _ => by omega), fun y => q1 w1 (fun _ => by omega)⟩⟩
  · exact ⟨fun z => absurd z (by decide), fun _ => ⟨fun _ => ⟨fun z => absurd z (by decide), fun _ => q0 w0 (fun z => absurd z w1)⟩, fun z => absurd rfl z⟩⟩
  · exact ⟨fun _ => ⟨fun _ => ⟨fun z => absurd z (by decide), fun _ => q1 w1 (fun z => absurd z w0)⟩, fun z => absurd rfl z⟩, fun z => absurd rfl z⟩
  · exact ⟨fun _ => ⟨fun _ => ⟨fun _ => qn w0 w1, fun z => absurd rfl z⟩, fun z => absurd rfl z⟩, fun z => absurd rfl z⟩
/-- what the image in use tells -/
theorem enc_vl (ht : t < 256) (hv : vOK v) (h : ∀ i, i < 160 → e i = enc v t i) : vl e := by
  unfold vl
  have es : sumB e 158 = sumB (enc0 v t) 158 := sumB_cg 158 (fun i hi => by rw [h i (by omega)]; unfold enc; rw [if_pos hi])
  have hl := sumB_le (e := enc0 v t) 158 (fun i _ => enc0_lt hv ht i)
  rw [es, h 158 (by omega), h 159 (by omega)]
  unfold enc
  rw [if_neg (by omega), if_neg (by omega)]
  show (1 + sumB (enc0 v t) 158) / 1 % 256 + 256 * ((1 + sumB (enc0 v t) 158) / 256 % 256) = _
  omega
theorem zero_vl (h : ∀ i, i < 160 → e i = 0) : ¬ vl e := by
  unfold vl
  have : sumB e 158 = 0 := by
    rw [sumB_cg 158 (e' := fun _ => 0) (fun i hi => h i (by omega))]
    have : ∀ n, sumB (fun _ => 0) n = 0 := by
      intro n
      induction n with
      | zero => rfl
      | succ n ih => show sumB (fun _ => 0) n + 0 = 0; rw [ih]
    exact this 158
  rw [this, h 158 (by omega), h 159 (by omega)]
  omega
theorem s_I_pageNumber {Q : Int32 → am_MI → am_MJ → Prop} {X : String → am_MI → am_MJ → Prop} {a : Nat} (ha : a < 160) (hr : rI z e J) (he : e a < 101) (hq : Q (nI (e a)) I J) : w_I_pageNumber z (nI a) I J Q X := by
  unfold w_I_pageNumber
  exact s_I_num1 ha hr (br_f (nI_ge (b := 101) (by omega) (by omega)) hq)
theorem enc_name {f j : Nat} (hf : f < 8) (hj : j < 4) : enc v t (1 + 7 * f + j) = by32 (vN v f) j := by
  unfold enc
  rw [if_pos (by omega), enc0_at hf (by omega), if_pos hj]
theorem enc_first {f : Nat} (hf : f < 8) : enc v t (5 + 7 * f) = fp v f := by
  unfold enc
  rw [if_pos (by omega), show 5 + 7 * f = 1 + 7 * f + 4 by omega, enc0_at hf (by omega), if_neg (by omega), if_pos rfl]
theorem enc_len (hv : vOK v) {f : Nat} (hf : f < 8) : enc v t (6 + 7 * f) + 256 * enc v t (6 + 7 * f + 1) = vL v f := by
  have := hv.len hf
  unfold enc
  rw [if_pos (by omega), if_pos (by omega), show 6 + 7 * f = 1 + 7 * f + 5 by omega, enc0_at hf (by omega), show 1 + 7 * f + 5 + 1 = 1 + 7 * f + 6 by omega, enc0_at hf (by omega), if_neg (by omega), if_neg (by omega), if_neg (by omega), if_neg (by omega)]
  show vL v f / 1 % 256 + 256 * (vL v f / 256 % 256) = _
  omega
theorem enc_lk {p : Nat} (hp : p < 101) : enc v t (57 + p) = lk v p := by
  unfold enc
  rw [if_pos (by omega), enc0_lk]
/-- pages owned so far -/
def oS (v : VT) (f j p : Nat) : Prop := ∃ g i, g < 8 ∧ i < np (vL v g) ∧ (g < f ∨ g = f ∧ i < j) ∧ vC v g i = p
def OW (v : VT) (f j : Nat) (I : am_MI) : Prop := ∀ p, p < 101 → (oS v f j p → I 15 p = 1) ∧ (¬ oS v f j p → I 15 p = 0)
theorem OW.mv {f j : Nat} (h : OW v f j I) (e : I' 15 = I 15) : OW v f j I' := by
  unfold OW at h ⊢
  rw [e]
  exact h
theorem OW.put {f j : Nat} (hf : f < 8) (hj : j < np (vL v f)) (h : OW v f j I) : OW v f (j + 1) (am_ui I 15 (vC v f j) 1) := by
  intro p hp
  by_cases ep : p = vC v f j
  · rw [ep, pu_s]
    exact ⟨fun _ => rfl, fun z => absurd ⟨f, j, hf, hj, Or.inr ⟨rfl, by omega⟩, rfl⟩ z⟩
  · rw [pu_f ep]
    have e : oS v f (j + 1) p ↔ oS v f j p := by
      constructor
      · rintro ⟨g, i, a, b, d, rfl⟩
        refine ⟨g, i, a, b, ?_, rfl⟩
        rcases d with d | ⟨rfl, d⟩
        · exact Or.inl d
        · refine Or.inr ⟨rfl, ?_⟩
          by_cases ei : i = j
          · exact absurd (by rw [ei]) ep
          · omega
      · rintro ⟨g, i, a, b, d, rfl⟩
        exact ⟨g, i, a, b, by omega, rfl⟩
    rw [e]
    exact h p hp
theorem OW.next {f : Nat} (h : OW v f (np (vL v f)) I) : OW v (f + 1) 0 I := by
  intro p hp
  have e : oS v (f + 1) 0 p ↔ oS v f (np (vL v f)) p := by
    constructor
    · rintro ⟨g, i, a, b, d, rfl⟩
      refine ⟨g, i, a, b, ?_, rfl⟩
      by_cases eg : g = f
      · subst eg
        exact Or.inr ⟨rfl, b⟩
      · exact Or.inl (by omega)
    · rintro ⟨g, i, a, b, d, rfl⟩
      exact ⟨g, i, a, b, Or.inl (by omega), rfl⟩
  rw [e]
  exact h p hp
theorem s_D_ownChain {Q : am_MI → am_MJ → Prop} {X : String → am_MI → am_MJ → Prop} {f : Nat} (hv : vOK v) (hf : f < 8) (h1 : I (6 + f) 1 = nI (fp v f)) (h2 : I (6 + f) 2 = nI (vL v f)) (h14 : ∀ p, p < 101 → I 14 p = nI (lk v p)) (ho : OW v f 0 I)
    (hq : ∀ I', (∀ k, k ≠ 15 → I' k = I k) → OW v (f + 1) 0 I' → Q I' J) : w_D_ownChain f I J Q X := by
  unfold w_D_ownChain
  have hl := hv.len hf
  have hp := hv.pg hf
  rw [h2]
  refine s_B_pagesFor (by omega) ?_
  rw [h1]
  unfold w_D_ownChain_16
  intro P hP
  have key : ∀ m j (x : Int32) I1, j + m = np (vL v f) → (j < np (vL v f) → x = nI (vC v f j)) → (∀ k, k ≠ 15 → I1 k = I k) → OW v f j I1 → P x (nI j) I1 J := by
    intro m
    induction m with
    | zero =>
      intro j x I1 hj hx k1 k2
      obtain rfl : j = np (vL v f) := by omega
      exact hP _ _ _ _ (br_t (nI_le (Nat.le_refl _) (by omega)) (hq I1 k1 k2.next))
    | succ m ih =>
      intro j x I1 hj hx k1 k2
      have hj2 : j < np (vL v f) := by omega
      have hx := hx hj2
      have hb := hv.2.1 f hf j hj2
      subst hx
      refine hP _ _ _ _ (br_f (nI_ge (by omega) (by omega)) ⟨vp_in_nI (by omega) (by omega), vp_in_nI (by omega) (by omega), ?_⟩)
      rw [nI_clamp (by omega), nI_1, show vp_nar .boolean 1 = (1 : Int32) from rfl, pu_k (by decide), k1 14 (by decide), h14 _ hb.2]
      refine ih (j + 1) _ _ (by omega) (fun h => by rw [lk_of hv hf h]) (fun k hk => (pu_k hk ..).trans (k1 k hk)) (k2.put hf hj2)
  refine key (np (vL v f)) 0 _ I (by omega) (fun h => ?_) (fun _ _ => rfl) ho
  unfold fp
  rw [if_neg (by omega)]
theorem s_D_takeFrom {Q : am_MI → am_MJ → Prop} {X : String → am_MI → am_MJ → Prop} (hv : vOK v) (ht : t < 256) (hr : rI z (enc v t) J) (h0 : rcV v0 I J)
    (hq : ∀ I', (∀ k, k < 6 ∨ 16 < k → I' k = I k) → rcV (vHd (vM v)) I' J → Q I' J) : w_D_takeFrom z I J Q X := by
  unfold w_D_takeFrom w_D_takeFrom_2
  intro P hP
  have k30 : ∀ I1, (∀ k, k < 6 ∨ 16 < k → I1 k = I k) → (∀ g, g < 8 → I1 (6 + g) = I (6 + g)) → I1 15 = I 15 → I1 16 = I 16 → (∀ p, p < 101 → I1 14 p = nI (lk v p)) → w_D_takeFrom_30 z 0 I1 J Q X P := by
    intro I1 a1 a2 a3 a4 a5
    unfold w_D_takeFrom_30
    intro P3 hP3
    have key : ∀ m f I2, f + m = 8 → (∀ k, k < 6 ∨ 16 < k → I2 k = I k) → (∀ p, p < 101 → I2 14 p = nI (lk v p)) → (∀ g, g < f → I2 (6 + g) 0 = vN v g ∧ I2 (6 + g) 1 = nI (fp v g) ∧ I2 (6 + g) 2 = nI (vL v g)) → (∀ g, g < 8 → I2 (6 + g) 3 = 0 ∧ I2 (6 + g) 5 = 0) → (∀ p, p < 101 → I2 16 p = 0) → OW v f 0 I2 → P3 (nI f) I2 J := by
      intro m
      induction m with
      | zero =>
        intro f I2 hf b1 b2 b3 b4 b5 b6
        obtain rfl : f = 8 := by omega
        refine hP3 _ _ _ (br_t (nI_le (a := 8) (by omega) (by omega)) (s_D_holdOwned (v := vM v) ?_ (fun I3 g1 g2 => hq I3 (fun k hk => (g1 k (by omega)).trans (b1 k hk)) g2)))
        refine ⟨fun g hg => (b3 g hg).1, fun g hg => (b3 g hg).2.2, fun g hg => (b3 g hg).2.1, fun g hg => (b4 g hg).1, fun g hg hw => absurd rfl hw, fun g hg => (b4 g hg).2, fun g hg i hi => ?_, fun p hp hn => ?_, fun p hp => ⟨fun u => (b6 p hp).1 ?_, fun u => (b6 p hp).2 (fun w => u ?_)⟩, fun p hp => b5 p hp⟩
        · exact (b2 _ (hv.2.1 g hg i (Nat.lt_of_succ_lt hi)).2).trans (congrArg nI (lk_of hv hg hi))
        · have hn : ∀ f, f < 8 → ∀ i, i + 1 < np (vL v f) → vC v f i ≠ p := hn
          rw [b2 p hp, lk_no hn]; rfl
        · obtain ⟨g, hg, i, hi, e⟩ := u
          exact ⟨g, i, hg, hi, Or.inl hg, e⟩
        · obtain ⟨g, i, hg, hi, -, e⟩ := w
          exact ⟨g, hg, i, hi, e⟩
      | succ m ih =>
        intro f I2 hf b1 b2 b3 b4 b5 b6
        have hf8 : f < 8 := by omega
        have hfp := fp_lt hv hf8
        refine hP3 _ _ _ (br_f (nI_ge (b := 8) (by omega) (by omega)) ⟨vp_in_nI (by omega) (by omega), ?_⟩)
        have m1 : (1 : Int32) + nI f * 7 = nI (1 + 7 * f) := by rw [show (7 : Int32) = nI 7 from rfl, show (1 : Int32) = nI 1 from rfl, pk_mul, nI_add, Nat.mul_comm]
        rw [nI_clamp (by omega), m1, show nI (1 + 7 * f) + 4 = nI (5 + 7 * f) by rw [show (4 : Int32) = nI 4 from rfl, nI_add]; exact congrArg nI (by omega), show nI (1 + 7 * f) + 5 = nI (6 + 7 * f) by rw [show (5 : Int32) = nI 5 from rfl, nI_add]; exact congrArg nI (by omega), nI_1]
        refine s_I_number (n := 4) (by omega) (by omega) hr (fun r hrr => ?_)
        have er : r = vN v f := by32_ext (fun j hj => by rw [hrr j, if_pos hj, enc_name hf8 hj])
        subst er
        refine s_I_pageNumber (by omega) hr (by rw [enc_first hf8]; exact hfp) (s_I_num2 (by omega) hr ?_)
        rw [enc_first hf8, enc_len hv hf8]
        have kk : ∀ k, k ≠ 6 + f → am_ui (am_ui (am_ui I2 (6 + f) 0 (vN v f)) (6 + f) 1 (nI (fp v f))) (6 + f) 2 (nI (vL v f)) k = I2 k := fun k h => by rw [pu_k h, pu_k h, pu_k h]
        refine s_D_ownChain hv hf8 ?_ ?_ (fun p hp => by rw [kk 14 (by omega)]; exact b2 p hp) (b6.mv (kk 15 (by omega))) (fun I3 g1 g2 => ih (f + 1) I3 (by omega) (fun k hk => ?_) (fun p hp => ?_) (fun g hg => ?_) (fun g hg => ?_) (fun p hp => ?_) g2)
        · rw [pu_f (by decide), pu_s]
        · rw [pu_s]
        · rw [g1 k (by omega), kk k (by omega)]; exact b1 k hk
        · rw [g1 14 (by decide), kk 14 (by omega)]; exact b2 p hp
        · rw [g1 (6 + g) (by omega)]
          by_cases eg : g = f
          · subst eg
            refine ⟨?_, ?_, pu_s ..⟩
            · rw [pu_f (by decide), pu_f (by decide), pu_s]
            · rw [pu_f (by decide), pu_s]
          · rw [kk (6 + g) (by omega)]; exact b3 g (by omega)
        · rw [g1 (6 + g) (by omega)]
          by_cases eg : g = f
          · subst eg
            rw [pu_f (by decide), pu_f (by decide), pu_f (by decide), pu_f (by decide), pu_f (by decide), pu_f (by decide)]
            exact b4 g hg
          · rw [kk (6 + g) (by omega)]; exact b4 g hg
        · rw [g1 16 (by decide), kk 16 (by omega)]; exact b5 p hp
    refine key 8 0 I1 (by omega) a1 a5 (fun g hg => absurd hg (by omega)) (fun g hg => ?_) (fun p hp => ?_) (fun p hp => ⟨fun w => ?_, fun _ => ?_⟩)
    · rw [a2 g hg]; exact ⟨h0.2.2.2.1 g hg, h0.2.2.2.2.2.1 g hg⟩
    · rw [a4]; exact h0.2.2.2.2.2.2.2.2.2 p hp
    · obtain ⟨g, i, -, -, d, -⟩ := w
      omega
    · rw [a3]; exact (h0.2.2.2.2.2.2.2.2.1 p hp).2 (v0_u p)
  have key : ∀ m x I1, x + m = 101 → (∀ k, k ≠ 14 → I1 k = I k) → (∀ p, p < x → I1 14 p = nI (lk v p)) → P (nI x) I1 J := by
    intro m
    induction m with
    | zero =>
      intro x I1 hx k1 k2
      obtain rfl : x = 101 := by omega
      exact hP _ _ _ (br_t (nI_le (a := 101) (by omega) (by omega)) (k30 I1 (fun k hk => k1 k (by omega)) (fun g hg => k1 _ (by omega)) (k1 15 (by decide)) (k1 16 (by decide)) k2))
    | succ m ih =>
      intro x I1 hx k1 k2
      refine hP _ _ _ (br_f (nI_ge (b := 101) (by omega) (by omega)) ?_)
      rw [show (57 : Int32) = nI 57 from rfl, nI_add]
      refine s_I_pageNumber (by omega) hr (by rw [enc_lk (by omega)]; exact lk_lt hv x) ⟨vp_in_nI (by omega) (by omega), ?_⟩
      rw [nI_clamp (by omega), nI_1, enc_lk (by omega)]
      refine ih (x + 1) _ (by omega) (fun k hk => (pu_k hk ..).trans (k1 k hk)) (fun p hp => ?_)
      by_cases ep : p = x
      · rw [ep, pu_s]
      · rw [pu_f ep]; exact k2 p (by omega)
  exact key 101 0 I (by omega) (fun _ _ => rfl) (fun p hp => absurd hp (by omega))
end
end PU23
