section PU24
/-! mount, the reference -/
def mR (c : CH) (bd : Nat → Int32) (I : am_MI) (J : am_MJ) : Prop := rmC c I J ∧ rmV v0 I J ∧ rmQ q0 I J ∧ I 28 7 = 1 ∧ I 28 8 = 0 ∧ I 28 2 = 1 ∧ ∀ k, k < 69 → I 29 k = bd k
section
variable {z : Nat} {c c' : CH} {v v' : VT} {cur t : Nat} {q : QT} {bd : Nat → Int32} {e : Nat → Nat} {d : Nat → Int64} {I I' : am_MI} {J J' : am_MJ}
theorem mR.i8 (h : mR c bd I J) (g : ∀ k, k ≠ 38 → I' k = I k) : mR c bd I' J := by
  obtain ⟨a1, a2, a3, a4, a5, a6, a7⟩ := h
  refine ⟨a1.mv (by rw [g 28 (by decide)]) rfl (by rw [g 28 (by decide)]) rfl, a2.mv (fun k _ _ => g k (by omega)) (fun _ _ _ => rfl), a3.mv (by rw [g 28 (by decide)]) (by rw [g 28 (by decide)]) (g 40 (by decide)) (g 41 (by decide)) rfl rfl, ?_, ?_, ?_, fun k hk => ?_⟩
  · rw [g 28 (by decide)]; exact a4
  · rw [g 28 (by decide)]; exact a5
  · rw [g 28 (by decide)]; exact a6
  · rw [g 29 (by decide)]; exact a7 k hk
theorem mR.turn (h : mR c bd I J) (hl : c.2.2.1 = -1) {p : Nat} (hp : p < 101) : mR (ch_go c p) bd (am_ui I 28 4 (nI p)) (am_uj J 28 5 (J 28 5 + lN (pd c.1 p))) := by
  obtain ⟨⟨b1, b2, b3, b4, b5⟩, a2, a3, a4, a5, a6, a7⟩ := h
  have k0 : ∀ k, k ≠ 28 → am_ui I 28 4 (nI p) k = I k := fun k h => pu_k h ..
  have k1 : ∀ f, f ≠ 4 → am_ui I 28 4 (nI p) 28 f = I 28 f := fun f h => pu_f h ..
  have j0 : ∀ k, k ≠ 28 → am_uj J 28 5 (J 28 5 + lN (pd c.1 p)) k = J k := fun k h => pj_k h ..
  refine ⟨⟨hp, pu_s .., ?_, ?_, fun x hx => ?_⟩, a2.mv (fun k _ _ => k0 k (by omega)) (fun k _ _ => j0 k (by omega)), a3.mv (k1 20 (by decide)) (k1 25 (by decide)) (k0 40 (by decide)) (k0 41 (by decide)) (j0 42 (by decide)) (j0 44 (by decide)), (k1 7 (by decide)).trans a4, (k1 8 (by decide)).trans a5, (k1 2 (by decide)).trans a6, fun k hk => ?_⟩
  · rw [pj_s, b3]; rfl
  · rw [k1 6 (by decide), b4]
    show _ = if c.2.2.1 ≤ 0 then c.2.2.1 else c.2.2.1 - 1
    rw [hl]
    rfl
  · rw [j0 30 (by decide)]; exact b5 x hx
  · rw [k0 29 (by decide)]; exact a7 k hk
theorem eD_lt (i : Nat) : eD d z i < 256 := by64_lt _ _
theorem s_M_isValid {Q : Int32 → am_MI → am_MJ → Prop} {X : String → am_MI → am_MJ → Prop} (he : ∀ i, e i < 256) (hr : rJ e I) (h1 : vl e → Q 1 I J) (h0 : ¬ vl e → Q 0 I J) : w_M_isValid I J Q X := by
  unfold w_M_isValid
  refine s_M_get2 (a := 158) (by omega) (fun i _ => he i) hr (s_M_sumOfImage (fun i _ => he i) (fun i hi => hr i (by omega)) ?_)
  have := sumB_le (e := e) 158 (fun i hi => he i)
  have ha := he 158
  have hb := he (158 + 1)
  have en : nI (e 158 + 256 * e (158 + 1)) = nI (1 + sumB e 158) ↔ vl e := nI_eq (by omega) (by omega)
  rw [en]
  exact ⟨h0, h1⟩
theorem dif_m {a b : Nat} (ha : a < 256) (hb : b < 256) : ((nI a - nI b) + (256 : Int32)) - ((nI a - nI b) + (256 : Int32)) / (256 : Int32) * (256 : Int32) = nI ((a + 256 - b) % 256) := by
  have e : (nI a - nI b) + (256 : Int32) = nI (a + 256 - b) := by
    rw [← pk_sub (by omega), ← nI_add, Int32.sub_eq_add_neg, Int32.sub_eq_add_neg, Int32.add_assoc, Int32.add_assoc, Int32.add_comm (-nI b)]
    rfl
  rw [e]
  exact pk_rem (d := 256) (by omega) (by omega) (by omega)
/-- the choice between the images -/
theorem s_M_mount_84 {Q : Int32 → am_MI → am_MJ → Prop} {X : String → am_MI → am_MJ → Prop} {P30 : Int32 → am_MI → am_MJ → Prop} {x1 x3 : Int32} {a b : Nat} {w0 w1 : Prop} (ha : a < 256) (hb : b < 256) (h38 : I 38 0 = nI b) (h1 : x1 = 0 ↔ ¬ w1) (h3 : x3 = 0 ↔ ¬ w0) (hor : w0 ∨ w1)
    (q0 : w0 → (w1 → ¬ (1 ≤ (a + 256 - b) % 256 ∧ (a + 256 - b) % 256 ≤ 127)) → w_M_mount_128 0 I J Q X P30)
    (q1 : w1 → (w0 → 1 ≤ (a + 256 - b) % 256 ∧ (a + 256 - b) % 256 ≤ 127) → w_M_mount_128 1 I J Q X P30) : w_M_mount_84 x1 (nI a) x3 I J Q X P30 := by
  unfold w_M_mount_84 w_M_mount_127 w_M_mount_123
  have hm : (a + 256 - b) % 256 < 256 := Nat.mod_lt _ (by omega)
  rw [show (0 : Int32).toNatClampNeg = 0 from rfl, h38, dif_m ha hb, h1, h3]
  rw [show (0 : Int32) = nI 0 from rfl, nI_eq (a := (a + 256 - b) % 256) (b := 0) (by omega) (by omega), show (127 : Int32) = nI 127 from rfl, nI_leI (by omega) (by omega)]
  refine ⟨vp_in_nI (n := 0) (by omega) (by omega), fun z => q1 (hor.resolve_left z) (fun y => absurd y z), fun z => ?_⟩
  have w0' : w0 := Classical.not_not.mp z
  refine ⟨fun y => q0 w0' (fun w => absurd w y), fun y => ?_⟩
  have w1' : w1 := Classical.not_not.mp y
  exact ⟨fun h => q0 w0' (fun _ => by omega), fun h => ⟨fun g => q1 w1' (fun _ => by omega), fun g => q0 w0' (fun _ => by omega)⟩⟩
theorem s_M_mount_128 {Q : Int32 → am_MI → am_MJ → Prop} {X : String → am_MI → am_MJ → Prop} {P30 : Int32 → am_MI → am_MJ → Prop} (hv : vOK v) (ht : t < 256) (hcur : cur < 2) (hm : mR c bd I J) (he : ∀ i, i < 160 → eD c.2.2.2 cur i = enc v t i)
    (hq : ∀ I', mS c (vHd (vM v)) cur t q0 bd I' J → kB I J I' J → I' 28 0 = I 28 0 → Q 1 I' J) : w_M_mount_128 (nI cur) I J Q X P30 := by
  unfold w_M_mount_128
  rw [pu_s]
  refine s_M_loadImage hcur (fun I1 g1 g2 => ⟨vp_in_nI (n := 0) (by omega) (by omega), ?_⟩)
  have hr1 : rJ (enc v t) I1 := g2.cg (fun i hi => by
    have := hm.1.2.2.2.2 (20 * cur + i / 8) (by omega)
    show by64 (J 30 (20 * cur + i / 8)) (i % 8) = _
    rw [this]
    exact he i hi)
  have het : ∀ i, enc v t i < 256 := fun i => enc_lt hv ht i
  have e0 : enc v t 0 = t := rfl
  rw [show (0 : Int32).toNatClampNeg = 0 from rfl, hr1 0 (by omega), e0]
  unfold w_M_mount_152
  intro P hP
  -- I2: the state as the loop begins
  have k28 : ∀ k, k ≠ 28 → k ≠ 38 → am_ui I1 28 16 (nI t) k = I k := fun k h1 h2 => by rw [pu_k h1, g1 k h2, pu_k h1]
  have kf : ∀ f, f ≠ 15 → f ≠ 16 → am_ui I1 28 16 (nI t) 28 f = I 28 f := fun f h1 h2 => by rw [pu_f h2, g1 28 (by decide), pu_f h1]
  have k15 : am_ui I1 28 16 (nI t) 28 15 = nI cur := by rw [pu_f (by decide), g1 28 (by decide), pu_s]
  have k16 : am_ui I1 28 16 (nI t) 28 16 = nI t := pu_s ..
  have hr2 : rJ (enc v t) (am_ui I1 28 16 (nI t)) := fun i hi => by rw [pu_k (by decide)]; exact hr1 i hi
  generalize am_ui I1 28 16 (nI t) = I2 at k28 kf k15 k16 hr2 ⊢
  have key : ∀ m f I3, f + m = 8 → (∀ k, k ≠ 31 → k ≠ 32 → k ≠ 33 → I3 k = I2 k) → (∀ g, g < f → I3 31 g = vN v g ∧ I3 32 g = nI (vL v g) ∧ ∀ i, i < np (vL v g) → I3 33 (64 * g + i) = nI (vC v g i)) → P (nI f) I3 J := by
    intro m
    induction m with
    | zero =>
      intro f I3 hf b1 b2
      obtain rfl : f = 8 := by omega
      have hmv := hm.2.1
      have hrm : rmV (vM v) I3 J := by
        refine ⟨fun g hg => (b2 g hg).1, fun g hg => (b2 g hg).2.1, fun g hg i hi => (b2 g hg).2.2 i hi, fun g hg => ?_, fun g hg hw => absurd rfl hw, fun g hg => ?_, fun p hp => ?_⟩
        · rw [b1 34 (by decide) (by decide) (by decide), k28 34 (by decide) (by decide)]; exact hmv.2.2.2.1 g hg
        · rw [b1 36 (by decide) (by decide) (by decide), k28 36 (by decide) (by decide)]; exact hmv.2.2.2.2.2.1 g hg
        · rw [b1 37 (by decide) (by decide) (by decide), k28 37 (by decide) (by decide)]; exact hmv.2.2.2.2.2.2 p hp
      refine hP _ _ _ (br_t (nI_le (a := 8) (by omega) (by omega)) (s_M_hold hv.vM hrm (fun I4 g3 g4 => ?_)))
      have kk : ∀ k, k ≠ 28 → k ≠ 31 → k ≠ 32 → k ≠ 33 → k ≠ 37 → k ≠ 38 → am_ui I4 28 8 1 k = I k := fun k h1 h2 h3 h4 h5 h6 => by rw [pu_k h1, g3 k h5, b1 k h2 h3 h4, k28 k h1 h6]
      have kg : ∀ f, f ≠ 8 → am_ui I4 28 8 1 28 f = I2 28 f := fun f h => by rw [pu_f h, g3 28 (by decide), b1 28 (by decide) (by decide) (by decide)]
      have kh : ∀ f, f ≠ 8 → f ≠ 15 → f ≠ 16 → am_ui I4 28 8 1 28 f = I 28 f := fun f h1 h2 h3 => (kg f h1).trans (kf f h2 h3)
      obtain ⟨a1, a2, a3, a4, a5, a6, a7⟩ := hm
      refine hq _ ⟨a1.mv (kh 4 (by decide) (by decide) (by decide)) rfl (kh 6 (by decide) (by decide) (by decide)) rfl, g4.mv (fun k _ _ => pu_k (by omega) ..) (fun _ _ _ => rfl), a3.mv (kh 20 (by decide) (by decide) (by decide)) (kh 25 (by decide) (by decide) (by decide)) (kk 40 (by decide) (by decide) (by decide) (by decide) (by decide) (by decide)) (kk 41 (by decide) (by decide) (by decide) (by decide) (by decide) (by decide)) rfl rfl, (kg 15 (by decide)).trans k15, (kg 16 (by decide)).trans k16, (kh 7 (by decide) (by decide) (by decide)).trans a4, pu_s .., (kh 2 (by decide) (by decide) (by decide)).trans a6, fun k hk => ?_⟩ ⟨fun k hk => kk k (by omega) (by omega) (by omega) (by omega) (by omega) (by omega), fun _ _ => rfl⟩ (kh 0 (by decide) (by decide) (by decide))
      rw [kk 29 (by decide) (by decide) (by decide) (by decide) (by decide) (by decide)]; exact a7 k hk
    | succ m ih =>
      intro f I3 hf b1 b2
      have hf8 : f < 8 := by omega
      have hfp := fp_lt hv hf8
      have hl := hv.len hf8
      have hnp := hv.pg hf8
      have hin : vp_in (nI f) 8 := vp_in_nI hf8 (by omega)
      have hr3 : rJ (enc v t) I3 := fun i hi => by rw [b1 38 (by decide) (by decide) (by decide)]; exact hr2 i hi
      refine hP _ _ _ (br_f (nI_ge (b := 8) (by omega) (by omega)) ?_)
      have m1 : ∀ n : Nat, nI n + (7 : Int32) * nI f = nI (n + 7 * f) := fun n => by rw [show (7 : Int32) = nI 7 from rfl, pk_mul, nI_add]
      rw [show (1 : Int32) + (7 : Int32) * nI f = nI (1 + 7 * f) from m1 1, show (6 : Int32) + (7 : Int32) * nI f = nI (6 + 7 * f) from m1 6]
      refine s_M_getBytes (n := 4) (by omega) (by omega) (fun i _ => het i) hr3 (fun r hrr => ⟨hin, hin, ?_⟩)
      have er : r = vN v f := by32_ext (fun j hj => by rw [hrr j, if_pos hj, enc_name hf8 hj])
      subst er
      rw [nI_clamp (by omega), pu_s]
      have tail : w_M_mount_211 (nI f) (nI (vL v f)) (nI f) (am_ui I3 31 f (vN v f)) J Q X P30 P := by
        unfold w_M_mount_211
        have k4 : ∀ k, k ≠ 31 → k ≠ 32 → am_ui (am_ui I3 31 f (vN v f)) 32 f (nI (vL v f)) k = I3 k := fun k h1 h2 => by rw [pu_k h2, pu_k h1]
        rw [show (5 : Int32) + (7 : Int32) * nI f = nI (5 + 7 * f) from m1 5, nI_clamp (by omega), nI_clamp (by omega), k4 38 (by decide) (by decide), hr3 (5 + 7 * f) (by omega), enc_first hf8]
        refine ⟨hin, vp_in_nI (by omega) (by omega), ?_⟩
        have e31 : ∀ g, am_ui (am_ui I3 31 f (vN v f)) 32 f (nI (vL v f)) 31 g = if g = f then vN v f else I3 31 g := fun g => by
          rw [pu_k (by decide)]
          by_cases eg : g = f
          · rw [if_pos eg, eg, pu_s]
          · rw [if_neg eg, pu_f eg]
        have e32 : ∀ g, am_ui (am_ui I3 31 f (vN v f)) 32 f (nI (vL v f)) 32 g = if g = f then nI (vL v f) else I3 32 g := fun g => by
          by_cases eg : g = f
          · rw [if_pos eg, eg, pu_s]
          · rw [if_neg eg, pu_f eg, pu_k (by decide)]
        generalize am_ui (am_ui I3 31 f (vN v f)) 32 f (nI (vL v f)) = I4 at k4 e31 e32 ⊢
        unfold w_M_mount_229
        intro P2 hP2
        have key2 : ∀ n j (x : Int32) I5, j + n = np (vL v f) → (j < np (vL v f) → x = nI (vC v f j)) → (∀ k, k ≠ 33 → I5 k = I4 k) → (∀ g, g < f → ∀ i, i < np (vL v g) → I5 33 (64 * g + i) = nI (vC v g i)) → (∀ i, i < j → I5 33 (64 * f + i) = nI (vC v f i)) → P2 x (nI j) I5 J := by
          intro n
          induction n with
          | zero =>
            intro j x I5 hj hx c1 c2 c3
            obtain rfl : j = np (vL v f) := by omega
            have e5 : I5 32 f = nI (vL v f) := by rw [c1 32 (by decide), e32, if_pos rfl]
            refine hP2 _ _ _ _ ?_
            unfold w_M_pages
            rw [nI_clamp (by omega), e5, pk_div8 (by omega), nI_1]
            refine ⟨hin, br_t (nI_le (Nat.le_refl _) (by omega)) (ih (f + 1) I5 (by omega) (fun k h1 h2 h3 => ?_) (fun g hg => ⟨?_, ?_, fun i hi => ?_⟩))⟩
            · rw [c1 k h3, k4 k h1 h2]; exact b1 k h1 h2 h3
            · rw [c1 31 (by decide), e31]
              by_cases eg : g = f
              · rw [if_pos eg, eg]
              · rw [if_neg eg]; exact (b2 g (by omega)).1
            · rw [c1 32 (by decide), e32]
              by_cases eg : g = f
              · rw [if_pos eg, eg]
              · rw [if_neg eg]; exact (b2 g (by omega)).2.1
            · by_cases eg : g = f
              · subst eg
                exact c3 i hi
              · exact c2 g (by omega) i hi
          | succ n ih2 =>
            intro j x I5 hj hx c1 c2 c3
            have hj2 : j < np (vL v f) := by omega
            have hx := hx hj2
            have hb := hv.2.1 f hf8 j hj2
            subst hx
            have e5 : I5 32 f = nI (vL v f) := by rw [c1 32 (by decide), e32, if_pos rfl]
            refine hP2 _ _ _ _ ?_
            unfold w_M_pages
            rw [nI_clamp (n := f) (by omega), e5, pk_div8 (by omega)]
            refine ⟨hin, br_f (nI_ge (by omega) (by omega)) ?_⟩
            rw [pk_64, show (57 : Int32) = nI 57 from rfl, nI_add, nI_clamp (by omega), nI_clamp (by omega), nI_1, pu_k (by decide), c1 38 (by decide), k4 38 (by decide) (by decide), hr3 (57 + vC v f j) (by omega), enc_lk (by omega)]
            refine ⟨vp_in_nI (by omega) (by omega), vp_in_nI (by omega) (by omega), ih2 (j + 1) _ _ (by omega) (fun h => by rw [lk_of hv hf8 h]) (fun k hk => (pu_k hk ..).trans (c1 k hk)) (fun g hg i hi => ?_) (fun i hi => ?_)⟩
            · have := hv.pg (f := g) (by omega)
              rw [pu_f (by omega)]; exact c2 g hg i hi
            · by_cases ei : i = j
              · rw [ei, pu_s]
              · rw [pu_f (by omega)]; exact c3 i (by omega)
        refine key2 (np (vL v f)) 0 _ I4 (by omega) (fun h => ?_) (fun _ _ => rfl) (fun g hg i hi => ?_) (fun i hi => absurd hi (by omega))
        · unfold fp
          rw [if_neg (by omega)]
        · rw [k4 33 (by decide) (by decide)]; exact (b2 g hg).2.2 i hi
      refine ⟨fun z => s_M_get2 (by omega) (fun i _ => het i) (fun i hi => by rw [pu_k (by decide)]; exact hr3 i hi) ?_, fun z => ?_⟩
      · rw [enc_len hv hf8]; exact tail
      · have : nI (vL v f) = 0 := by rw [hv.1 f hf8 z]; rfl
        rw [this] at tail
        exact tail
  exact key 8 0 I2 (by omega) (fun _ _ _ _ => rfl) (fun g hg => absurd hg (by omega))
/-- the image in use, with what it says -/
def IMGv (v : VT) (cur t : Nat) (d : Nat → Int64) : Prop := vOK v ∧ cur < 2 ∧ t < 256 ∧ (∀ i, i < 160 → eD d cur i = enc v t i) ∧ (cur = 0 → ¬ (1 ≤ (by64 (d 20) 0 + 256 - t) % 256 ∧ (by64 (d 20) 0 + 256 - t) % 256 ≤ 127)) ∧ (cur = 1 → 1 ≤ (t + 256 - by64 (d 0) 0) % 256 ∧ (t + 256 - by64 (d 0) 0) % 256 ≤ 127)
/-- the reference's forty turns, and its choice -/
theorem s_M_mount_30 {Q : Int32 → am_MI → am_MJ → Prop} {X : String → am_MI → am_MJ → Prop} {b : Bool} (hm : mR c bd I J) (hl : c.2.2.1 = -1) (ho : (b = false ∧ ∀ p, p < 40 → c.2.2.2 p = 0) ∨ (b = true ∧ IMGv v cur t c.2.2.2))
    (hz : b = false → ∀ I' J', mR (rd 40 c) bd I' J' → kB I J I' J' → I' 28 0 = I 28 0 → Q 0 I' J')
    (hq : b = true → ∀ I' J', mS (rd 40 c) (vHd (vM v)) cur t q0 bd I' J' → kB I J I' J' → I' 28 0 = I 28 0 → Q 1 I' J') : w_M_mount_30 0 I J Q X := by
  unfold w_M_mount_30
  intro P hP
  have key : ∀ m x I1 J1, x + m = 40 → mR (rd x c) bd I1 J1 → kB I J I1 J1 → I1 28 0 = I 28 0 → P (nI x) I1 J1 := by
    intro m
    induction m with
    | zero =>
      intro x I1 J1 hx b1 k1 u1
      obtain rfl : x = 40 := by omega
      refine hP _ _ _ (br_t (nI_le (a := 40) (by omega) (by omega)) ?_)
      have ed : ∀ z, z < 2 → ∀ i, i < 160 → by64 (J1 30 (20 * z + i / 8)) (i % 8) = eD c.2.2.2 z i := fun z hz i hi => by
        rw [b1.1.2.2.2.2 (20 * z + i / 8) (by omega), rd_d]; rfl
      refine s_M_loadImage (z := 1) (by omega) (fun I2 g1 g2 => ?_)
      have r2 : rJ (eD c.2.2.2 1) I2 := g2.cg (ed 1 (by omega))
      have b2 := b1.i8 g1
      have hk2 : kB I J I2 J1 := ⟨fun k hk => (g1 k (by omega)).trans (k1.1 k hk), k1.2⟩
      have i0 : vp_in (0 : Int32) 160 := vp_in_nI (n := 0) (by omega) (by omega)
      have part : ∀ (r11 : Int32), (r11 = 0 ↔ ¬ vl (eD c.2.2.2 1)) → vp_in (0 : Int32) 160 ∧ (w_M_loadImage (0 : Int32) I2 J1 (fun (I13 : am_MI) (J14 : am_MJ) => w_M_isValid I13 J14 (fun (r18 : Int32) (I16 : am_MI) (J17 : am_MJ) => (¬ r18 = 0 → (w_M_mount_84 r11 (I2 38 (0 : Int32).toNatClampNeg) r18 I16 J17 Q X P)) ∧ (r18 = 0 → ((¬ r11 = 0 → (w_M_mount_84 r11 (I2 38 (0 : Int32).toNatClampNeg) r18 I16 J17 Q X P)) ∧ (r11 = 0 → (Q 0 I16 J17))))) X) X) := by
        intro r11 h11
        refine ⟨i0, s_M_loadImage (z := 0) (by omega) (fun I3 g3 g4 => ?_)⟩
        have r3 : rJ (eD c.2.2.2 0) I3 := g4.cg (ed 0 (by omega))
        have b3 := b2.i8 g3
        have hk3 : kB I J I3 J1 := ⟨fun k hk => (g3 k (by omega)).trans (hk2.1 k hk), k1.2⟩
        have x2 : I2 38 (0 : Int32).toNatClampNeg = nI (eD c.2.2.2 1 0) := r2 0 (by omega)
        have u3 : I3 28 0 = I 28 0 := by rw [g3 28 (by decide), g1 28 (by decide)]; exact u1
        rw [x2]
        -- both, or one of them, or none
        rcases ho with ⟨hbf, hzero⟩ | ⟨hbt, hv, hcur, ht, a1, a2, a3⟩
        · have n0 : ¬ vl (eD c.2.2.2 0) := zero_vl (fun i hi => by unfold eD; rw [hzero _ (by omega)]; exact by64_z _)
          have n1 : ¬ vl (eD c.2.2.2 1) := zero_vl (fun i hi => by unfold eD; rw [hzero _ (by omega)]; exact by64_z _)
          exact s_M_isValid (fun i => eD_lt i) r3 (fun w => absurd w n0) (fun _ => ⟨fun z => absurd rfl z, fun _ => ⟨fun z => absurd (h11.mpr n1) z, fun _ => hz hbf I3 J1 b3 hk3 u3⟩⟩)
        · have vc : vl (eD c.2.2.2 cur) := enc_vl ht hv a1
          have et : eD c.2.2.2 cur 0 = t := a1 0 (by omega)
          have f128 : w_M_mount_128 (nI cur) I3 J1 Q X P := s_M_mount_128 hv ht hcur b3 (fun i hi => by rw [rd_d]; exact a1 i hi) (fun I4 m4 k4 u4 => hq hbt I4 J1 m4 (hk3.tr k4) (u4.trans u3))
          have sel : ∀ r18 : Int32, (r18 = 0 ↔ ¬ vl (eD c.2.2.2 0)) → w_M_mount_84 r11 (nI (eD c.2.2.2 1 0)) r18 I3 J1 Q X P := by
            intro r18 h18
            have hor : vl (eD c.2.2.2 0) ∨ vl (eD c.2.2.2 1) := by
              by_cases e : cur = 0
              · subst e; exact Or.inl vc
              · obtain rfl : cur = 1 := by omega
                exact Or.inr vc
            refine s_M_mount_84 (eD_lt 0) (eD_lt 0) (r3 0 (by omega)) h11 h18 hor (fun w0 w => ?_) (fun w1 w => ?_)
            · by_cases e : cur = 0
              · subst e; exact f128
              · obtain rfl : cur = 1 := by omega
                have := a3 rfl
                rw [← et] at this
                exact absurd this (w vc)
            · by_cases e : cur = 0
              · subst e
                have := a2 rfl
                rw [← et] at this
                exact absurd (w vc) this
              · obtain rfl : cur = 1 := by omega
                exact f128
          refine s_M_isValid (fun i => eD_lt i) r3 (fun w => ⟨fun _ => sel 1 ⟨fun z => absurd z (by decide), fun z => absurd w z⟩, fun z => absurd z (by decide)⟩) (fun w => ⟨fun z => absurd rfl z, fun _ => ⟨fun _ => sel 0 ⟨fun _ => w, fun _ => rfl⟩, fun z => ?_⟩⟩)
          have n1 := h11.mp z
          by_cases e : cur = 0
          · subst e; exact absurd vc w
          · obtain rfl : cur = 1 := by omega
            exact absurd vc n1
      exact s_M_isValid (fun i => eD_lt i) r2 (fun w => part 1 ⟨fun z => absurd z (by decide), fun z => absurd w z⟩) (fun w => part 0 ⟨fun _ => w, fun _ => rfl⟩)
    | succ m ih =>
      intro x I1 J1 hx b1 k1 u1
      refine hP _ _ _ (br_f (nI_ge (b := 40) (by omega) (by omega)) (s_M_turnTo b1.1.2.1 b1.1.1 (by omega) ?_))
      rw [nI_1]
      exact ih (x + 1) _ _ (by omega) (b1.turn (rd_l x hl) (by omega)) ((k1.ui (by omega) _ _).uj (by omega) (by omega) _ _) ((pu_f (by decide) ..).trans u1)
  exact key 40 0 I J (by omega) hm kB.rf rfl
end
end PU24
