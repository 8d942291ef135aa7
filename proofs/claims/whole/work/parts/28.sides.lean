section PU8
/-! the two sides apart -/
abbrev QT : Type := Nat × Nat × (Nat → Nat) × (Nat → Int32) × (Nat → Int64) × (Nat → Int64)
abbrev qn (q : QT) : Nat := q.1
abbrev qa (q : QT) : Nat := q.2.1
abbrev qp (q : QT) : Nat → Nat := q.2.2.1
abbrev qw (q : QT) : Nat → Int32 := q.2.2.2.1
abbrev qb (q : QT) : Nat → Int64 := q.2.2.2.2.1
abbrev qs (q : QT) : Nat → Int64 := q.2.2.2.2.2
def qOK (q : QT) : Prop := qn q ≤ 16 ∧ qa q ≤ 16 ∧ ∀ k, k < qn q → qp q k < 101 ∧ (qw q k = 0 ∨ qw q k = 1)
def rcQ (q : QT) (I : am_MI) (J : am_MJ) : Prop := I 17 5 = nI (qn q) ∧ I 17 6 = nI (qa q) ∧ (∀ k, k < qn q → I 18 k = nI (qp q k) ∧ I 19 k = qw q k ∧ J 20 k = qb q k) ∧ ∀ k, k < qa q → J 22 k = qs q k
def rmQ (q : QT) (I : am_MI) (J : am_MJ) : Prop := I 28 20 = nI (qn q) ∧ I 28 25 = nI (qa q) ∧ (∀ k, k < qn q → I 40 k = nI (qp q k) ∧ I 41 k = qw q k ∧ J 42 k = qb q k) ∧ ∀ k, k < qa q → J 44 k = qs q k
/-- the class, mounted / switched off; the reference, mounted / switched off -/
def bS (c : CH) (v : VT) (cur t : Nat) (q : QT) (bd : Nat → Int32) (I : am_MI) (J : am_MJ) : Prop := rcC c I J ∧ rcV v I J ∧ rcQ q I J ∧ I 0 6 = nI cur ∧ I 0 7 = nI t ∧ I 0 4 = 2 ∧ I 1 2 = 1 ∧ ∀ k, k < 69 → I 3 k = bd k
def bO (c : CH) (bd : Nat → Int32) (I : am_MI) (J : am_MJ) : Prop := rcC c I J ∧ I 0 4 = 0 ∧ I 1 2 = 1 ∧ ∀ k, k < 69 → I 3 k = bd k
def mS (c : CH) (v : VT) (cur t : Nat) (q : QT) (bd : Nat → Int32) (I : am_MI) (J : am_MJ) : Prop := rmC c I J ∧ rmV v I J ∧ rmQ q I J ∧ I 28 15 = nI cur ∧ I 28 16 = nI t ∧ I 28 7 = 1 ∧ I 28 8 = 1 ∧ I 28 2 = 1 ∧ ∀ k, k < 69 → I 29 k = bd k
def mO (c : CH) (bd : Nat → Int32) (I : am_MI) (J : am_MJ) : Prop := rmC c I J ∧ I 28 7 = 0 ∧ I 28 2 = 1 ∧ ∀ k, k < 69 → I 29 k = bd k
def kM (I : am_MI) (J : am_MJ) (I' : am_MI) (J' : am_MJ) : Prop := (∀ k, 28 ≤ k → I' k = I k) ∧ ∀ k, 28 ≤ k → J' k = J k
def kB (I : am_MI) (J : am_MJ) (I' : am_MI) (J' : am_MJ) : Prop := (∀ k, k < 28 → I' k = I k) ∧ ∀ k, k < 28 ∨ k = 45 → J' k = J k
theorem kM.rf {I : am_MI} {J : am_MJ} : kM I J I J := ⟨fun _ _ => rfl, fun _ _ => rfl⟩
theorem kB.rf {I : am_MI} {J : am_MJ} : kB I J I J := ⟨fun _ _ => rfl, fun _ _ => rfl⟩
theorem kM.tr {I I1 I2 : am_MI} {J J1 J2 : am_MJ} (h : kM I J I1 J1) (g : kM I1 J1 I2 J2) : kM I J I2 J2 := ⟨fun k a => (g.1 k a).trans (h.1 k a), fun k a => (g.2 k a).trans (h.2 k a)⟩
theorem kB.tr {I I1 I2 : am_MI} {J J1 J2 : am_MJ} (h : kB I J I1 J1) (g : kB I1 J1 I2 J2) : kB I J I2 J2 := ⟨fun k a => (g.1 k a).trans (h.1 k a), fun k a => (g.2 k a).trans (h.2 k a)⟩
theorem kM.ui {I I1 : am_MI} {J J1 : am_MJ} (h : kM I J I1 J1) {k : Nat} (hk : k < 28) (f : Nat) (x : Int32) : kM I J (am_ui I1 k f x) J1 := ⟨fun k' a => (pu_k (by omega) ..).trans (h.1 k' a), h.2⟩
theorem kM.uj {I I1 : am_MI} {J J1 : am_MJ} (h : kM I J I1 J1) {k : Nat} (hk : k < 28) (f : Nat) (x : Int64) : kM I J I1 (am_uj J1 k f x) := ⟨h.1, fun k' a => (pj_k (by omega) ..).trans (h.2 k' a)⟩
theorem kB.ui {I I1 : am_MI} {J J1 : am_MJ} (h : kB I J I1 J1) {k : Nat} (hk : 28 ≤ k) (f : Nat) (x : Int32) : kB I J (am_ui I1 k f x) J1 := ⟨fun k' a => (pu_k (by omega) ..).trans (h.1 k' a), h.2⟩
theorem kB.uj {I I1 : am_MI} {J J1 : am_MJ} (h : kB I J I1 J1) {k : Nat} (hk : 28 ≤ k) (hk2 : k ≠ 45) (f : Nat) (x : Int64) : kB I J I1 (am_uj J1 k f x) := ⟨h.1, fun k' a => (pj_k (by omega) ..).trans (h.2 k' a)⟩
theorem fB.kM {I I' : am_MI} {J J' : am_MJ} (h : fB I J I' J') : kM I J I' J' := ⟨fun k a => h.1 k (by omega) (by omega), fun k a => h.2.2.2 k (by omega) (by omega)⟩
theorem fM.kB {I I' : am_MI} {J J' : am_MJ} (h : fM I J I' J') : kB I J I' J' := ⟨fun k a => h.1 k (by omega), fun k a => h.2.2 k (by omega) (by omega)⟩
theorem rcQ.mv {q : QT} {I I' : am_MI} {J J' : am_MJ} (h : rcQ q I J) (h1 : I' 17 = I 17) (h2 : I' 18 = I 18) (h3 : I' 19 = I 19) (h4 : J' 20 = J 20) (h5 : J' 22 = J 22) : rcQ q I' J' := by
  unfold rcQ at h ⊢
  rw [h1, h2, h3, h4, h5]
  exact h
theorem rmQ.mv {q : QT} {I I' : am_MI} {J J' : am_MJ} (h : rmQ q I J) (h1 : I' 28 20 = I 28 20) (h0 : I' 28 25 = I 28 25) (h2 : I' 40 = I 40) (h3 : I' 41 = I 41) (h4 : J' 42 = J 42) (h5 : J' 44 = J 44) : rmQ q I' J' := by
  unfold rmQ at h ⊢
  rw [h1, h0, h2, h3, h4, h5]
  exact h
section
variable {c c' : CH} {v v' : VT} {cur t : Nat} {q : QT} {bd : Nat → Int32} {I I' : am_MI} {J J' : am_MJ}
theorem bS.mv (h : bS c v cur t q bd I J) (h1 : ∀ k, k < 28 → I' k = I k) (h2 : ∀ k, k < 28 → J' k = J k) : bS c v cur t q bd I' J' := by
  obtain ⟨a1, a2, a3, a4, a5, a6, a7, a8⟩ := h
  refine ⟨a1.mv (by rw [h1 1 (by omega)]) (by rw [h2 1 (by omega)]) (by rw [h1 0 (by omega)]) (h2 2 (by omega)), a2.mv (fun k _ _ => h1 k (by omega)) (fun k _ _ => h2 k (by omega)), a3.mv (h1 17 (by omega)) (h1 18 (by omega)) (h1 19 (by omega)) (h2 20 (by omega)) (h2 22 (by omega)), ?_, ?_, ?_, ?_, fun k hk => ?_⟩
  · rw [h1 0 (by omega)]; exact a4
  · rw [h1 0 (by omega)]; exact a5
  · rw [h1 0 (by omega)]; exact a6
  · rw [h1 1 (by omega)]; exact a7
  · rw [h1 3 (by omega)]; exact a8 k hk
theorem bO.mv (h : bO c bd I J) (h1 : ∀ k, k < 28 → I' k = I k) (h2 : ∀ k, k < 28 → J' k = J k) : bO c bd I' J' := by
  obtain ⟨a1, a6, a7, a8⟩ := h
  refine ⟨a1.mv (by rw [h1 1 (by omega)]) (by rw [h2 1 (by omega)]) (by rw [h1 0 (by omega)]) (h2 2 (by omega)), ?_, ?_, fun k hk => ?_⟩
  · rw [h1 0 (by omega)]; exact a6
  · rw [h1 1 (by omega)]; exact a7
  · rw [h1 3 (by omega)]; exact a8 k hk
theorem bS.kb (h : bS c v cur t q bd I J) (g : kB I J I' J') : bS c v cur t q bd I' J' := h.mv g.1 (fun k hk => g.2 k (Or.inl hk))
theorem bO.kb (h : bO c bd I J) (g : kB I J I' J') : bO c bd I' J' := h.mv g.1 (fun k hk => g.2 k (Or.inl hk))
/-- the reference's own cells: all but the code of the last call -/
theorem mS.mv (h : mS c v cur t q bd I J) (h1 : ∀ k, 29 ≤ k → I' k = I k) (h0 : ∀ f, f ≠ 0 → I' 28 f = I 28 f) (h2 : ∀ k, 28 ≤ k → k < 45 → J' k = J k) : mS c v cur t q bd I' J' := by
  obtain ⟨a1, a2, a3, a4, a5, a6, a7, a8, a9⟩ := h
  refine ⟨a1.mv (h0 4 (by decide)) (by rw [h2 28 (by omega) (by omega)]) (h0 6 (by decide)) (h2 30 (by omega) (by omega)), a2.mv (fun k _ _ => h1 k (by omega)) (fun k _ _ => h2 k (by omega) (by omega)), a3.mv (h0 20 (by decide)) (h0 25 (by decide)) (h1 40 (by omega)) (h1 41 (by omega)) (h2 42 (by omega) (by omega)) (h2 44 (by omega) (by omega)), (h0 15 (by decide)).trans a4, (h0 16 (by decide)).trans a5, (h0 7 (by decide)).trans a6, (h0 8 (by decide)).trans a7, (h0 2 (by decide)).trans a8, fun k hk => ?_⟩
  rw [h1 29 (by omega)]; exact a9 k hk
theorem mO.mv (h : mO c bd I J) (h1 : I' 29 = I 29) (h0 : ∀ f, f = 2 ∨ f = 4 ∨ f = 6 ∨ f = 7 → I' 28 f = I 28 f) (h2 : J' 28 = J 28) (h3 : J' 30 = J 30) : mO c bd I' J' := by
  obtain ⟨a1, a6, a8, a9⟩ := h
  refine ⟨a1.mv (h0 4 (by decide)) (by rw [h2]) (h0 6 (by decide)) h3, (h0 7 (by decide)).trans a6, (h0 2 (by decide)).trans a8, fun k hk => ?_⟩
  rw [h1]; exact a9 k hk
theorem mS.km (h : mS c v cur t q bd I J) (g : kM I J I' J') : mS c v cur t q bd I' J' := h.mv (fun k a => g.1 k (by omega)) (fun f _ => by rw [g.1 28 (by omega)]) (fun k a _ => g.2 k a)
theorem mO.km (h : mO c bd I J) (g : kM I J I' J') : mO c bd I' J' := h.mv (g.1 29 (by omega)) (fun f _ => by rw [g.1 28 (by omega)]) (g.2 28 (by omega)) (g.2 30 (by omega))
theorem mS.code (h : mS c v cur t q bd I J) (x : Int32) : mS c v cur t q bd (am_ui I 28 0 x) J := h.mv (fun k a => pu_k (by omega) ..) (fun f a => pu_f a ..) (fun _ _ _ => rfl)
theorem mS.out (h : mS c v cur t q bd I J) (f : Nat) (x : Int64) : mS c v cur t q bd I (am_uj J 45 f x) := h.mv (fun k a => rfl) (fun f a => rfl) (fun k _ a => pj_k (by omega) ..)
theorem bS.out (h : bS c v cur t q bd I J) (f : Nat) (x : Int64) : bS c v cur t q bd I (am_uj J 45 f x) := h.mv (fun _ _ => rfl) (fun k a => pj_k (by omega) ..)
theorem mO.ui (h : mO c bd I J) {k : Nat} (hk : k ≠ 28) (hk2 : k ≠ 29) (f : Nat) (x : Int32) : mO c bd (am_ui I k f x) J := h.mv (pu_k (by omega) ..) (fun f _ => by rw [pu_k (by omega)]) rfl rfl
theorem mO.u28 (h : mO c bd I J) {f : Nat} (hf : f ≠ 2 ∧ f ≠ 4 ∧ f ≠ 6 ∧ f ≠ 7) (x : Int32) : mO c bd (am_ui I 28 f x) J := h.mv (pu_k (by omega) ..) (fun f' _ => pu_f (by omega) ..) rfl rfl
theorem mO.uj (h : mO c bd I J) {k : Nat} (hk : k ≠ 28) (hk2 : k ≠ 30) (f : Nat) (x : Int64) : mO c bd I (am_uj J k f x) := h.mv rfl (fun f _ => rfl) (pj_k (by omega) ..) (pj_k (by omega) ..)
theorem bS.go (h : bS c v cur t q bd I J) (hc : rcC c' I' J') (g : fB I J I' J') : bS c' v cur t q bd I' J' := by
  obtain ⟨a1, a2, a3, a4, a5, a6, a7, a8⟩ := h
  obtain ⟨g1, g2, g3, g4⟩ := g
  refine ⟨hc, a2.mv (fun k _ _ => g1 k (by omega) (by omega)) (fun k _ _ => g4 k (by omega) (by omega)), a3.mv (g1 17 (by omega) (by omega)) (g1 18 (by omega) (by omega)) (g1 19 (by omega) (by omega)) (g4 20 (by omega) (by omega)) (g4 22 (by omega) (by omega)), (g2 6 (by decide)).trans a4, (g2 7 (by decide)).trans a5, (g2 4 (by decide)).trans a6, (g3 2 (by decide)).trans a7, fun k hk => ?_⟩
  rw [g1 3 (by omega) (by omega)]; exact a8 k hk
theorem mS.go (h : mS c v cur t q bd I J) (hc : rmC c' I' J') (h7 : I' 28 7 = 1) (g : fM I J I' J') : mS c' v cur t q bd I' J' := by
  obtain ⟨a1, a2, a3, a4, a5, a6, a7, a8, a9⟩ := h
  obtain ⟨g1, g2, g3⟩ := g
  refine ⟨hc, a2.mv (fun k _ _ => g1 k (by omega)) (fun k _ _ => g3 k (by omega) (by omega)), a3.mv (g2 20 (by decide) (by decide) (by decide)) (g2 25 (by decide) (by decide) (by decide)) (g1 40 (by omega)) (g1 41 (by omega)) (g3 42 (by omega) (by omega)) (g3 44 (by omega) (by omega)), (g2 15 (by decide) (by decide) (by decide)).trans a4, (g2 16 (by decide) (by decide) (by decide)).trans a5, h7, (g2 8 (by decide) (by decide) (by decide)).trans a7, (g2 2 (by decide) (by decide) (by decide)).trans a8, fun k hk => ?_⟩
  rw [g1 29 (by omega)]; exact a9 k hk
theorem bS.off (h : bS c v cur t q bd I J) : bO c bd (am_ui I 0 4 0) J := by
  obtain ⟨a1, a2, a3, a4, a5, a6, a7, a8⟩ := h
  refine ⟨a1.mv (by rw [pu_k (by omega)]) rfl (pu_f (by decide) ..) rfl, pu_s .., by rw [pu_k (by omega)]; exact a7, fun k hk => ?_⟩
  rw [pu_k (by omega)]; exact a8 k hk
theorem mS.off (h : mS c v cur t q bd I J) : mO c bd (am_ui I 28 7 0) J := by
  obtain ⟨a1, a2, a3, a4, a5, a6, a7, a8, a9⟩ := h
  refine ⟨a1.mv (pu_f (by decide) ..) rfl (pu_f (by decide) ..) rfl, pu_s .., (pu_f (by decide) ..).trans a8, fun k hk => ?_⟩
  rw [pu_k (by omega)]; exact a9 k hk
theorem INV.on (h : INV I J) (h4 : I 0 4 = 2) : ∃ c v cur t q bd, vOK v ∧ cur < 2 ∧ t < 256 ∧ qOK q ∧ IMG cur t c.2.2.2 ∧ bS c v cur t q bd I J ∧ mS c v cur t q bd I J := by
  obtain ⟨c, a1, a2, a3, a4, a5, a6⟩ := h
  rcases a6 with ⟨e1, -⟩ | ⟨e1, -⟩ | ⟨-, e7, e8, v, cur, t, d1, d2, d3, d4, d5, d6, d7, d8, d9, d10, d11, n, a, g1, g2, g3, g4, g5, g6, g7, g8⟩
  · rw [h4] at e1; exact absurd e1 (by decide)
  · rw [h4] at e1; exact absurd e1 (by decide)
  have hp : ∃ p : Nat → Nat, ∀ k, k < n → p k < 101 ∧ I 18 k = nI (p k) ∧ I 40 k = nI (p k) := by
    have : ∀ k, ∃ p, k < n → p < 101 ∧ I 18 k = nI p ∧ I 40 k = nI p := fun k => by
      by_cases hk : k < n
      · obtain ⟨p, x⟩ := (g7 k hk).1
        exact ⟨p, fun _ => x⟩
      · exact ⟨0, fun z => absurd z hk⟩
    exact ⟨fun k => (this k).choose, fun k => (this k).choose_spec⟩
  obtain ⟨p, hp⟩ := hp
  refine ⟨c, v, cur, t, (n, a, p, I 41, J 42, J 44), I 29, d1, d4, d5, ⟨g1, g2, fun k hk => ⟨(hp k hk).1, (g7 k hk).2.2.1⟩⟩, d11, ⟨a1, d2, ⟨g3, g5, fun k hk => ⟨(hp k hk).2.1, (g7 k hk).2.1, (g7 k hk).2.2.2⟩, g8⟩, d6, d7, h4, a4.trans d10, a3⟩, a2, d3, ⟨g4, g6, fun k hk => ⟨(hp k hk).2.2, rfl, rfl⟩, fun k hk => rfl⟩, d8, d9, e7, e8, d10, fun k hk => rfl⟩
theorem INV.of_on (hv : vOK v) (hcur : cur < 2) (ht : t < 256) (hq : qOK q) (hi : IMG cur t c.2.2.2) (hb : bS c v cur t q bd I J) (hm : mS c v cur t q bd I J) : INV I J := by
  obtain ⟨a1, a2, ⟨q1, q2, q3, q4⟩, a4, a5, a6, a7, a8⟩ := hb
  obtain ⟨b1, b2, ⟨r1, r2, r3, r4⟩, b4, b5, b6, b7, b8, b9⟩ := hm
  refine ⟨c, a1, b1, fun k hk => (a8 k hk).trans (b9 k hk).symm, a7.trans b8.symm, Or.inr ⟨b8, Or.inr ⟨cur, hcur, t, ht, hi⟩⟩, Or.inr (Or.inr ⟨a6, b6, b7, v, cur, t, hv, a2, b2, hcur, ht, a4, a5, b4, b5, b8, hi, qn q, qa q, hq.1, hq.2.1, q1, r1, q2, r2, fun k hk => ⟨⟨qp q k, (hq.2.2 k hk).1, (q3 k hk).1, (r3 k hk).1⟩, (q3 k hk).2.1.trans (r3 k hk).2.1.symm, ?_, (q3 k hk).2.2.trans (r3 k hk).2.2.symm⟩, fun k hk => (q4 k hk).trans (r4 k hk).symm⟩)⟩
  rw [(r3 k hk).2.1]; exact (hq.2.2 k hk).2
theorem INV.of_off (hi : OIMG c.2.2.2) (hb : bO c bd I J) (hm : mO c bd I J) : INV I J := by
  obtain ⟨a1, a6, a7, a8⟩ := hb
  obtain ⟨b1, b6, b8, b9⟩ := hm
  exact ⟨c, a1, b1, fun k hk => (a8 k hk).trans (b9 k hk).symm, a7.trans b8.symm, Or.inr ⟨b8, hi⟩, Or.inl ⟨a6, b6⟩⟩
end
/-! bytes of a page -/
theorem nat8 {i : Nat} (hi : i < 8) (P : Nat → Prop) (h0 : P 0) (h1 : P 1) (h2 : P 2) (h3 : P 3) (h4 : P 4) (h5 : P 5) (h6 : P 6) (h7 : P 7) : P i := by
  match i, hi with
  | 0, _ => exact h0
  | 1, _ => exact h1
  | 2, _ => exact h2
  | 3, _ => exact h3
  | 4, _ => exact h4
  | 5, _ => exact h5
  | 6, _ => exact h6
  | 7, _ => exact h7
theorem and255 (n : Nat) : n &&& 255 = n % 256 := Nat.and_two_pow_sub_one_eq_mod n 8
theorem nI_byte (n : Nat) : (nI (n % 256)).toBitVec.toNat = n % 256 := by
  show (BitVec.ofNat 32 (n % 256)).toNat = _
  rw [BitVec.toNat_ofNat]
  omega
theorem bv_c {y : Int64} : (y.toInt32 &&& (255 : Int32)) = nI (y.toBitVec.toNat % 256) := by
  apply Int32.toBitVec_inj.mp
  apply BitVec.eq_of_toNat_eq
  rw [Int32.toBitVec_and, BitVec.toNat_and, Int64.toBitVec_toInt32, BitVec.signExtend_eq_setWidth_of_le _ (by omega), BitVec.toNat_setWidth, nI_byte]
  show _ &&& 255 = _
  rw [and255]
  omega
theorem bv_m {y : Int64} : (y &&& (255 : Int64)).toInt32 = nI (y.toBitVec.toNat % 256) := by
  apply Int32.toBitVec_inj.mp
  apply BitVec.eq_of_toNat_eq
  rw [Int64.toBitVec_toInt32, BitVec.signExtend_eq_setWidth_of_le _ (by omega), BitVec.toNat_setWidth, Int64.toBitVec_and, BitVec.toNat_and, nI_byte]
  show (_ &&& 255) % _ = _
  rw [and255]
  omega
theorem b255 : ∀ i : Fin 64, ¬ i.val < 8 → (255#64)[i.val] = false := by decide
theorem ssr_low {x : BitVec 64} {s : Nat} (hs : s + 8 ≤ 64) : (x.sshiftRight s).toNat % 256 = x.toNat / 2 ^ s % 256 := by
  rw [← Nat.shiftRight_eq_div_pow, ← BitVec.toNat_ushiftRight, ← and255, ← and255]
  show _ &&& (255#64).toNat = _ &&& (255#64).toNat
  rw [← BitVec.toNat_and, ← BitVec.toNat_and]
  congr 1
  ext i hi
  simp only [BitVec.getElem_and, BitVec.getElem_sshiftRight, BitVec.getElem_ushiftRight]
  by_cases h8 : i < 8
  · rw [dif_pos (by omega)]
    rw [BitVec.getLsbD_eq_getElem (by omega)]
  · have : (255#64)[i] = false := by
      exact b255 ⟨i, hi⟩ h8
    rw [this]
    simp
theorem by_c {x : Int64} {i : Nat} (hi : i < 8) : ((x.toUInt64 >>> (((8 : Int32) * nI i).toInt64.toUInt64 &&& Int64.toUInt64 63)).toInt64).toInt32 &&& (255 : Int32) = nI (by64 x i) := by
  rw [bv_c, UInt64.toBitVec_toInt64, UInt64.toBitVec_shiftRight]
  have e : (((8 : Int32) * nI i).toInt64.toUInt64 &&& Int64.toUInt64 63).toBitVec % 64 = BitVec.ofNat 64 (8 * i) := nat8 hi (fun i => (((8 : Int32) * nI i).toInt64.toUInt64 &&& Int64.toUInt64 63).toBitVec % 64 = BitVec.ofNat 64 (8 * i)) rfl rfl rfl rfl rfl rfl rfl rfl
  rw [e, BitVec.ushiftRight_eq', BitVec.toNat_ushiftRight, BitVec.toNat_ofNat, Nat.mod_eq_of_lt (a := 8 * i) (by omega), Nat.shiftRight_eq_div_pow, Nat.pow_mul]
  rfl
theorem by_m {x : Int64} {i : Nat} (hi : i < 8) : ((x >>> (((8 : Int32) * nI i).toInt64 &&& 63)) &&& (255 : Int64)).toInt32 = nI (by64 x i) := by
  rw [bv_m, Int64.toBitVec_shiftRight]
  have e : (((8 : Int32) * nI i).toInt64 &&& 63).toBitVec.smod 64 = BitVec.ofNat 64 (8 * i) := nat8 hi (fun i => (((8 : Int32) * nI i).toInt64 &&& 63).toBitVec.smod 64 = BitVec.ofNat 64 (8 * i)) rfl rfl rfl rfl rfl rfl rfl rfl
  rw [e]
  show nI ((x.toBitVec.sshiftRight (BitVec.ofNat 64 (8 * i)).toNat).toNat % 256) = _
  rw [BitVec.toNat_ofNat, Nat.mod_eq_of_lt (a := 8 * i) (by omega), ssr_low (by omega), Nat.pow_mul]
  rfl
end PU8
