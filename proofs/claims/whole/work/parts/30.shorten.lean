section PU10
/-! shorten: truncate, remove -/
def vSh (v : VT) (f n : Nat) (d : Bool) : VT := (vN v, fu (vL v) f n, vC v, (if d then fu (vW v) f 0 else vW v), vB v, (if d then fu (vG v) f false else vG v), vH v)
/-- the window's page is among those from page m to page e -/
def dr (v : VT) (f m e : Nat) : Prop := vW v f ≠ 0 ∧ ∃ i, m ≤ i ∧ i < e ∧ vC v f i = vW v f
theorem np_le {a b : Nat} (h : a ≤ b) : np a ≤ np b := by unfold np; omega
theorem pu_id {I : am_MI} {k f : Nat} {x : Int32} (h : I k f = x) : am_ui I k f x = I := by
  funext k' f'
  by_cases e : k' = k
  · subst e
    by_cases e2 : f' = f
    · rw [e2, pu_s, h]
    · rw [pu_f e2]
  · rw [pu_k e]
section
variable {c c' : CH} {v v' : VT} {cur t : Nat} {q : QT} {bd : Nat → Int32} {I I' : am_MI} {J J' : am_MJ}
theorem vSh_L {f n : Nat} {d : Bool} {g : Nat} : vL (vSh v f n d) g = if g = f then n else vL v g := rfl
theorem vOK.sh (h : vOK v) {f n : Nat} {d : Bool} (hf : f < 8) (hn : n ≤ vL v f) (hd : d = true ↔ dr v f (np n) (np (vL v f))) : vOK (vSh v f n d) := by
  obtain ⟨h1, h2, h3, h4, h5⟩ := h
  have hle : ∀ g, np (vL (vSh v f n d) g) ≤ np (vL v g) := fun g => by
    rw [vSh_L]
    by_cases e : g = f
    · rw [if_pos e, e]; exact np_le hn
    · rw [if_neg e]; exact Nat.le_refl _
  have hW : ∀ g, vW (vSh v f n d) g = if d = true ∧ g = f then 0 else vW v g := fun g => by
    cases d
    · show vW v g = _
      rw [if_neg (fun z => absurd z.1 (by decide))]
    · show fu (vW v) f 0 g = _
      by_cases e : g = f
      · rw [if_pos ⟨rfl, e⟩, e, fu_s]
      · rw [if_neg (fun z => e z.2), fu_n e]
  have hG : ∀ g, vG (vSh v f n d) g = if d = true ∧ g = f then false else vG v g := fun g => by
    cases d
    · show vG v g = _
      rw [if_neg (fun z => absurd z.1 (by decide))]
    · show fu (vG v) f false g = _
      by_cases e : g = f
      · rw [if_pos ⟨rfl, e⟩, e, fu_s]
      · rw [if_neg (fun z => e z.2), fu_n e]
  refine ⟨fun g hg e => ?_, fun g hg i hi => h2 g hg i (Nat.lt_of_lt_of_le hi (hle g)), fun a ha b hb i hi j hj => h3 a ha b hb i (Nat.lt_of_lt_of_le hi (hle a)) j (Nat.lt_of_lt_of_le hj (hle b)), fun g hg hw => ?_, fun g hg hgg => ?_⟩
  · have := h1 g hg e
    rw [vSh_L]
    by_cases eg : g = f
    · rw [if_pos eg]; rw [eg] at this; omega
    · rw [if_neg eg]; exact this
  · rw [hW] at hw ⊢
    by_cases e : d = true ∧ g = f
    · rw [if_pos e] at hw; exact absurd rfl hw
    · rw [if_neg e] at hw ⊢
      obtain ⟨i, hi, ei⟩ := h4 g hg hw
      refine ⟨i, ?_, ei⟩
      rw [vSh_L]
      by_cases eg : g = f
      · rw [if_pos eg]
        subst eg
        refine Nat.not_le.mp (fun z => e ⟨hd.mpr ⟨hw, i, z, hi, ei⟩, rfl⟩)
      · rw [if_neg eg]; exact hi
  · rw [hG] at hgg
    rw [hW]
    by_cases e : d = true ∧ g = f
    · rw [if_pos e] at hgg; exact absurd hgg (by decide)
    · rw [if_neg e] at hgg ⊢; exact h5 g hg hgg
/-- pages given up: cells 14, 15, and the window -/
def gv (v : VT) (f m e : Nat) (I : am_MI) (J : am_MJ) (I' : am_MI) (J' : am_MJ) : Prop :=
  (∀ p, p < 101 → (∃ i, m ≤ i ∧ i < e ∧ vC v f i = p) → I' 14 p = 0 ∧ I' 15 p = 0) ∧ (∀ p, (∀ i, m ≤ i → i < e → vC v f i ≠ p) → I' 14 p = I 14 p ∧ I' 15 p = I 15 p) ∧
  (∀ k, k ≠ 14 → k ≠ 15 → k ≠ 6 + f → I' k = I k) ∧ (∀ k, k ≠ 6 + f → J' k = J k) ∧ (∀ r, r ≠ 3 → r ≠ 5 → I' (6 + f) r = I (6 + f) r) ∧
  (dr v f m e → I' (6 + f) 3 = 0 ∧ I' (6 + f) 5 = 0) ∧ (¬ dr v f m e → I' (6 + f) 3 = I (6 + f) 3 ∧ I' (6 + f) 5 = I (6 + f) 5 ∧ J' (6 + f) 4 = J (6 + f) 4)
theorem s_D_giveUp {Q : am_MI → am_MJ → Prop} {X : String → am_MI → am_MJ → Prop} {f m : Nat} (hv : vOK v) (hf : f < 8) (hm : m < np (vL v f)) (hw : I (6 + f) 3 = nI (vW v f))
    (hl : ∀ i, m ≤ i → i + 1 < np (vL v f) → I 14 (vC v f i) = nI (vC v f (i + 1)))
    (hq : ∀ I' J', gv v f m (np (vL v f)) I J I' J' → Q I' J') : w_D_giveUp f (nI (vC v f m)) (nI (np (vL v f) - m)) I J Q X := by
  unfold w_D_giveUp w_D_giveUp_6
  have h61 := hv.pg hf
  intro P hP
  have key : ∀ j k (x : Int32) I' J', k + j = np (vL v f) - m → (k < np (vL v f) - m → x = nI (vC v f (m + k))) → gv v f m (m + k) I J I' J' → P x (nI k) I' J' := by
    intro j
    induction j with
    | zero =>
      intro k x I' J' hk _ hg
      refine hP _ _ _ _ (br_t (nI_le (by omega) (by omega)) (hq _ _ ?_))
      rw [show m + k = np (vL v f) by omega] at hg
      exact hg
    | succ j ih =>
      intro k x I' J' hk hx hg
      rw [hx (by omega)]
      have hpb := hv.2.1 f hf (m + k) (by omega)
      have hin : vp_in (nI (vC v f (m + k))) 101 := vp_in_nI hpb.2 (by omega)
      obtain ⟨g1, g2, g3, g4, g5, g6, g7⟩ := hg
      have inj : ∀ i, i < np (vL v f) → vC v f i = vC v f (m + k) → i = m + k := fun i hi e => (hv.2.2.1 f hf f hf i hi (m + k) (by omega) e).2
      have hold := g2 (vC v f (m + k)) (fun i hi hi2 e => by have := inj i (by omega) e; omega)
      refine hP _ _ _ _ (br_f (nI_ge (by omega) (by omega)) ⟨hin, hin, hin, ?_⟩)
      rw [nI_clamp (by omega), nI_1]
      generalize hE : am_ui (am_ui I' 14 (vC v f (m + k)) 0) 15 (vC v f (m + k)) (vp_nar .boolean 0) = E
      have E14 : ∀ p, E 14 p = if p = vC v f (m + k) then 0 else I' 14 p := fun p => by
        rw [← hE, pu_k (by decide)]
        by_cases e : p = vC v f (m + k)
        · rw [if_pos e, e, pu_s]
        · rw [if_neg e, pu_f e]
      have E15 : ∀ p, E 15 p = if p = vC v f (m + k) then 0 else I' 15 p := fun p => by
        rw [← hE]
        by_cases e : p = vC v f (m + k)
        · rw [if_pos e, e, pu_s]; rfl
        · rw [if_neg e, pu_f e, pu_k (by decide)]
      have Ek : ∀ k, k ≠ 14 → k ≠ 15 → E k = I' k := fun k a b => by rw [← hE, pu_k b, pu_k a]
      have nxt : k + 1 < np (vL v f) - m → I' 14 (vC v f (m + k)) = nI (vC v f (m + (k + 1))) := fun hk2 => by rw [hold.1]; exact hl (m + k) (by omega) (by omega)
      have G1 : ∀ p, p < 101 → (∃ i, m ≤ i ∧ i < m + (k + 1) ∧ vC v f i = p) → E 14 p = 0 ∧ E 15 p = 0 := fun p hp ⟨i, a, b, e⟩ => by
        rw [E14, E15]
        by_cases ep : p = vC v f (m + k)
        · rw [if_pos ep, if_pos ep]; exact ⟨rfl, rfl⟩
        · rw [if_neg ep, if_neg ep]
          refine g1 p hp ⟨i, a, ?_, e⟩
          have : i ≠ m + k := fun z => ep (by rw [← e, z])
          omega
      have G2 : ∀ p, (∀ i, m ≤ i → i < m + (k + 1) → vC v f i ≠ p) → E 14 p = I 14 p ∧ E 15 p = I 15 p := fun p hp => by
        have ep : p ≠ vC v f (m + k) := fun z => hp (m + k) (by omega) (by omega) z.symm
        rw [E14, E15, if_neg ep, if_neg ep]
        exact g2 p (fun i a b => hp i a (by omega))
      have hE3 : E (6 + f) = I' (6 + f) := Ek _ (by omega) (by omega)
      have drs : dr v f m (m + (k + 1)) ↔ dr v f m (m + k) ∨ vW v f = vC v f (m + k) := ⟨fun ⟨a, i, b, d, e⟩ => by
          by_cases ei : i = m + k
          · right; rw [← e, ei]
          · left; exact ⟨a, i, b, by omega, e⟩, fun z => z.elim (fun ⟨a, i, b, d, e⟩ => ⟨a, i, b, by omega, e⟩) (fun e => ⟨by omega, m + k, by omega, by omega, e.symm⟩)⟩
      by_cases hd : dr v f m (m + k)
      · have h3 := g6 hd
        refine ⟨fun _ => ih (k + 1) _ _ _ (by omega) nxt ⟨G1, G2, fun k' a b d => by rw [Ek k' a b]; exact g3 k' a b d, g4, fun r a b => by rw [hE3]; exact g5 r a b, fun _ => by rw [hE3]; exact h3, fun z => absurd (drs.mpr (Or.inl hd)) z⟩, fun z => ?_⟩
        rw [hE3, h3.1] at z
        exact absurd ((nI_eq (a := 0) (by omega) (by omega)).mp z) (by omega)
      · have h3 := g7 hd
        have hwb : vW v f < 2 ^ 31 := by
          by_cases e : vW v f = 0
          · omega
          · have := hv.win hf e; omega
        rw [hE3, h3.1, hw, nI_eq hwb (by omega)]
        refine ⟨fun z => ih (k + 1) _ _ _ (by omega) nxt ⟨G1, G2, fun k' a b d => by rw [Ek k' a b]; exact g3 k' a b d, g4, fun r a b => by rw [hE3]; exact g5 r a b, fun y => absurd (drs.mp y) (fun w => w.elim hd z), fun _ => by rw [hE3]; exact h3⟩, fun z => ?_⟩
        unfold w_E_openWindow
        have kE : ∀ k', k' ≠ 6 + f → am_ui (am_ui E (6 + f) 3 0) (6 + f) 5 0 k' = E k' := fun k' a => by rw [pu_k a, pu_k a]
        refine ih (k + 1) _ _ _ (by omega) nxt ⟨fun p a b => by rw [kE 14 (by omega), kE 15 (by omega)]; exact G1 p a b, fun p a => by rw [kE 14 (by omega), kE 15 (by omega)]; exact G2 p a, fun k' a b d => by rw [kE k' d, Ek k' a b]; exact g3 k' a b d, fun k' a => (pj_k a ..).trans (g4 k' a), fun r a b => ?_, fun _ => ⟨?_, pu_s ..⟩, fun y => absurd (drs.mpr (Or.inr z)) y⟩
        · rw [pu_f b, pu_f a, hE3]; exact g5 r a b
        · rw [pu_f (by decide), pu_s]
  exact key (np (vL v f) - m) 0 _ I J (by omega) (fun _ => rfl) ⟨fun p _ ⟨i, a, b, _⟩ => absurd b (by omega), fun p _ => ⟨rfl, rfl⟩, fun _ _ _ _ => rfl, fun _ _ => rfl, fun _ _ _ => rfl, fun ⟨_, i, a, b, _⟩ => absurd b (by omega), fun _ => ⟨rfl, rfl, rfl⟩⟩
/-- the class's files, shortened -/
theorem s_D_shorten {Q : Int32 → am_MI → am_MJ → Prop} {X : String → am_MI → am_MJ → Prop} {f n : Nat} {d : Bool} (hv : vOK v) (hc : rcV v I J) (hf : f < 8) (hn : n ≤ vL v f) (hd : d = true ↔ dr v f (np n) (np (vL v f)))
    (hq : ∀ I' J', rcV (vSh v f n d) I' J' → (∀ k, k < 6 ∨ 16 ≤ k → I' k = I k) → (∀ k, k < 6 ∨ 14 ≤ k → J' k = J k) → Q (nI (np (vL v f) - np n)) I' J') : w_D_shorten f (nI n) I J Q X := by
  unfold w_D_shorten
  have h61 := hv.pg hf
  have hl := hv.len hf
  have hnp := np_le hn
  refine s_B_pagesFor (by omega) ?_
  rw [hc.2.1 f hf]
  refine s_B_pagesFor (by omega) ?_
  rw [pk_sub (by omega)]
  have e0 : nI (np (vL v f) - np n) ≤ 0 ↔ np (vL v f) - np n ≤ 0 := nI_leI (b := 0) (by omega) (by omega)
  have hc' := hc
  obtain ⟨h1, h2, h3, h4, h5, h6, h7, h8, h9, h10⟩ := hc
  have sub : ∀ g i, i < np (vL (vSh v f n d) g) → i < np (vL v g) := fun g i hi => by
    rw [vSh_L] at hi
    by_cases e : g = f
    · rw [if_pos e] at hi; rw [e]; omega
    · rw [if_neg e] at hi; exact hi
  refine ⟨fun hz => ?_, fun hz => ?_⟩
  · -- no page less
    have hz := e0.mp hz
    have hd0 : d = false := by
      cases d
      · rfl
      · obtain ⟨_, i, a, b, _⟩ := hd.mp rfl; omega
    subst hd0
    refine hq _ _ ?_ (fun k hk => pu_k (by omega) ..) (fun k hk => rfl)
    have k0 : ∀ g r, r ≠ 2 → am_ui I (6 + f) 2 (nI n) (6 + g) r = I (6 + g) r := fun g r hr => by
      by_cases e : g = f
      · rw [e, pu_f hr]
      · rw [pu_k (by omega)]
    have k1 : ∀ k, 14 ≤ k → am_ui I (6 + f) 2 (nI n) k = I k := fun k hk => pu_k (by omega) ..
    have hnpe : ∀ g, np (vL (vSh v f n false) g) = np (vL v g) := fun g => by
      rw [vSh_L]
      by_cases e : g = f
      · rw [if_pos e, e]; omega
      · rw [if_neg e]
    have us : ∀ p, used (vSh v f n false) p ↔ used v p := fun p => by
      unfold used
      exact ⟨fun ⟨g, a, i, b, e⟩ => ⟨g, a, i, by rw [hnpe] at b; exact b, e⟩, fun ⟨g, a, i, b, e⟩ => ⟨g, a, i, by rw [hnpe]; exact b, e⟩⟩
    refine ⟨fun g hg => (k0 g 0 (by decide)).trans (h1 g hg), fun g hg => ?_, fun g hg => ?_, fun g hg => (k0 g 3 (by decide)).trans (h4 g hg), h5, fun g hg => (k0 g 5 (by decide)).trans (h6 g hg), fun g hg i hi => ?_, fun p hp hh => ?_, fun p hp => ?_, fun p hp => ?_⟩
    · rw [vSh_L]
      by_cases e : g = f
      · rw [if_pos e, e, pu_s]
      · rw [if_neg e, pu_k (by omega)]; exact h2 g hg
    · rw [k0 g 1 (by decide), hnpe]; exact h3 g hg
    · rw [k1 14 (by omega)]; rw [hnpe] at hi; exact h7 g hg i hi
    · rw [k1 14 (by omega)]; exact h8 p hp (fun g hg i hi => hh g hg i (by rw [hnpe]; exact hi))
    · rw [k1 15 (by omega), us]; exact h9 p hp
    · rw [k1 16 (by omega)]; exact h10 p hp
  · have hz : np n < np (vL v f) := by
      have : ¬ (np (vL v f) - np n ≤ 0) := fun z => hz (e0.mpr z)
      omega
    refine s_D_pageAt hv hc' hf hz ?_
    -- behind the page that is now the last
    have fin : ∀ I1 : am_MI, (∀ k, k ≠ 14 → k ≠ 6 + f → I1 k = I k) → (∀ r, r ≠ 1 → I1 (6 + f) r = I (6 + f) r) → I1 (6 + f) 1 = nI (if np n = 0 then 0 else vC v f 0) → (∀ p, I1 14 p = if 0 < np n ∧ p = vC v f (np n - 1) then 0 else I 14 p) →
        w_D_giveUp f (nI (vC v f (np n))) (nI (np (vL v f) - np n)) I1 J (fun I14 J15 => Q (nI (np (vL v f) - np n)) (am_ui I14 (6 + f) 2 (nI n)) J15) X := by
      intro I1 b1 b2 b3 b4
      have inj : ∀ i, i < np (vL v f) → ∀ j, j < np (vL v f) → vC v f i = vC v f j → i = j := fun i hi j hj e => (hv.2.2.1 f hf f hf i hi j hj e).2
      refine s_D_giveUp hv hf hz ((b2 3 (by decide)).trans (h4 f hf)) (fun i hi hi2 => ?_) (fun I2 J2 hg => ?_)
      · rw [b4, if_neg (fun z => by have := inj i (by omega) (np n - 1) (by omega) z.2; omega)]
        exact h7 f hf i hi2
      · obtain ⟨g1, g2, g3, g4, g5, g6, g7⟩ := hg
        have k1 : ∀ k, k ≠ 6 + f → am_ui I2 (6 + f) 2 (nI n) k = I2 k := fun k hk => pu_k hk ..
        have kf : ∀ r, r ≠ 2 → am_ui I2 (6 + f) 2 (nI n) (6 + f) r = I2 (6 + f) r := fun r hr => pu_f hr ..
        have ko : ∀ g, g ≠ f → g < 8 → am_ui I2 (6 + f) 2 (nI n) (6 + g) = I (6 + g) := fun g hg hg8 => by rw [k1 _ (by omega), g3 _ (by omega) (by omega) (by omega), b1 _ (by omega) (by omega)]
        refine hq _ _ ⟨fun g hg => ?_, fun g hg => ?_, fun g hg => ?_, fun g hg => ?_, fun g hg hw => ?_, fun g hg => ?_, fun g hg i hi => ?_, fun p hp hh => ?_, fun p hp => ?_, fun p hp => ?_⟩ (fun k hk => by rw [k1 k (by omega), g3 k (by omega) (by omega) (by omega), b1 k (by omega) (by omega)]) (fun k hk => g4 k (by omega))
        · by_cases e : g = f
          · rw [e, kf 0 (by decide), g5 0 (by decide) (by decide), b2 0 (by decide)]; exact h1 f hf
          · rw [ko g e hg]; exact h1 g hg
        · rw [vSh_L]
          by_cases e : g = f
          · rw [if_pos e, e, pu_s]
          · rw [if_neg e, ko g e hg]; exact h2 g hg
        · rw [vSh_L]
          by_cases e : g = f
          · rw [if_pos e, e, kf 1 (by decide), g5 1 (by decide) (by decide), b3]; rfl
          · rw [if_neg e, ko g e hg]; exact h3 g hg
        · by_cases e : g = f
          · rw [e, kf 3 (by decide)]
            cases d
            · rw [(g7 (fun z => absurd (hd.mpr z) (by decide))).1, b2 3 (by decide)]; exact h4 f hf
            · rw [(g6 (hd.mp rfl)).1]
              show _ = nI (fu (vW v) f 0 f)
              rw [fu_s]; rfl
          · rw [ko g e hg, h4 g hg]
            cases d
            · rfl
            · show _ = nI (fu (vW v) f 0 g)
              rw [fu_n e]
        · by_cases e : g = f
          · subst e
            cases d
            · rw [(g7 (fun z => absurd (hd.mpr z) (by decide))).2.2]; exact h5 g hg hw
            · exact absurd (fu_s (vW v) g 0) hw
          · rw [g4 (6 + g) (by omega)]
            refine h5 g hg ?_
            cases d
            · exact hw
            · have hw : fu (vW v) f 0 g ≠ 0 := hw
              rw [fu_n e] at hw
              exact hw
        · by_cases e : g = f
          · rw [e, kf 5 (by decide)]
            cases d
            · rw [(g7 (fun z => absurd (hd.mpr z) (by decide))).2.1, b2 5 (by decide)]; exact h6 f hf
            · rw [(g6 (hd.mp rfl)).2]
              show _ = bI (fu (vG v) f false f)
              rw [fu_s]; rfl
          · rw [ko g e hg, h6 g hg]
            cases d
            · rfl
            · show _ = bI (fu (vG v) f false g)
              rw [fu_n e]
        · have hi' := sub g (i + 1) hi
          rw [k1 14 (by omega)]
          show I2 14 (vC v g i) = nI (vC v g (i + 1))
          rw [(g2 (vC v g i) (fun j a b e => ?_)).1, b4, if_neg (fun z => ?_)]
          · exact h7 g hg i hi'
          · obtain ⟨eg, ei⟩ := hv.2.2.1 g hg f hf i (by omega) (np n - 1) (by omega) z.2
            rw [vSh_L, if_pos eg] at hi
            omega
          · obtain ⟨eg, ei⟩ := hv.2.2.1 f hf g hg j (by omega) i (by omega) e
            rw [vSh_L, if_pos eg.symm] at hi
            omega
        · rw [k1 14 (by omega)]
          by_cases hx : ∃ i, np n ≤ i ∧ i < np (vL v f) ∧ vC v f i = p
          · exact (g1 p hp hx).1
          · rw [(g2 p (fun i a b e => hx ⟨i, a, b, e⟩)).1, b4]
            by_cases hy : 0 < np n ∧ p = vC v f (np n - 1)
            · rw [if_pos hy]
            · rw [if_neg hy]
              refine h8 p hp (fun g hg i hi e => ?_)
              by_cases eg : g = f
              · subst eg
                by_cases hin : i + 1 < np n
                · exact hh g hg i (by rw [vSh_L, if_pos rfl]; exact hin) e
                · by_cases hie : i + 1 = np n
                  · exact hy ⟨by omega, by rw [show np n - 1 = i by omega]; exact e.symm⟩
                  · exact hx ⟨i, by omega, by omega, e⟩
              · exact hh g hg i (by rw [vSh_L, if_neg eg]; exact hi) e
        · rw [k1 15 (by omega)]
          by_cases hx : ∃ i, np n ≤ i ∧ i < np (vL v f) ∧ vC v f i = p
          · refine ⟨fun ⟨g, hg, i, hi, e⟩ => ?_, fun _ => (g1 p hp hx).2⟩
            obtain ⟨j, ja, jb, je⟩ := hx
            obtain ⟨eg, ei⟩ := hv.2.2.1 g hg f hf i (sub g i hi) j jb (e.trans je.symm)
            rw [vSh_L, if_pos eg] at hi
            omega
          · rw [(g2 p (fun i a b e => hx ⟨i, a, b, e⟩)).2, b1 15 (by omega) (by omega)]
            have us : used (vSh v f n d) p ↔ used v p := ⟨fun ⟨g, hg, i, hi, e⟩ => ⟨g, hg, i, sub g i hi, e⟩, fun ⟨g, hg, i, hi, e⟩ => ⟨g, hg, i, by
              rw [vSh_L]
              by_cases eg : g = f
              · rw [if_pos eg]
                subst eg
                exact Nat.not_le.mp (fun z => hx ⟨i, z, hi, e⟩)
              · rw [if_neg eg]; exact hi, e⟩⟩
            rw [us]
            exact h9 p hp
        · rw [k1 16 (by omega), g3 16 (by omega) (by omega) (by omega), b1 16 (by omega) (by omega)]; exact h10 p hp
    unfold w_D_putPageAt
    have ez : nI (np n) = 0 ↔ np n = 0 := nI_eq (b := 0) (by omega) (by omega)
    rw [ez]
    refine ⟨fun hn0 => ?_, fun hn0 => ?_⟩
    · have e1 : nI (np n) - 1 = nI (np n - 1) := pk_sub (b := 1) (by omega)
      rw [e1]
      have hpb := hv.2.1 f hf (np n - 1) (by omega)
      refine s_D_pageAt hv hc' hf (by omega) ⟨vp_in_nI hpb.2 (by omega), ?_⟩
      rw [nI_clamp (by omega)]
      refine fin _ (fun k a b => pu_k a ..) (fun r a => by rw [pu_k (by omega)]) ?_ (fun p => ?_)
      · rw [pu_k (by omega), h3 f hf, if_neg (by omega), if_neg hn0]
      · by_cases e : p = vC v f (np n - 1)
        · rw [if_pos ⟨by omega, e⟩, e, pu_s]
        · rw [if_neg (fun z => e z.2), pu_f e]
    · refine fin _ (fun k a b => pu_k b ..) (fun r a => pu_f a ..) ?_ (fun p => ?_)
      · rw [pu_s, if_pos hn0]; rfl
      · rw [if_neg (fun z => by omega), pu_k (by omega)]
/-- the reference's files, shortened -/
theorem s_M_shorten {Q : Int32 → am_MI → am_MJ → Prop} {X : String → am_MI → am_MJ → Prop} {f n : Nat} {d : Bool} (hv : vOK v) (hc : rmV v I J) (hf : f < 8) (hn : n ≤ vL v f) (hd : d = true ↔ dr v f (np n) (np (vL v f)))
    (hq : ∀ I', rmV (vSh v f n d) I' J → (∀ k, k ≠ 32 → k ≠ 34 → k ≠ 36 → I' k = I k) → Q (nI (np (vL v f) - np n)) I' J) : w_M_shorten (nI f) (nI n) I J Q X := by
  unfold w_M_shorten
  have h61 := hv.pg hf
  have hl := hv.len hf
  have hnp := np_le hn
  refine s_M_pages hv hc hf ?_
  rw [pk_div8 (by omega), pk_sub (by omega)]
  unfold w_M_shorten_20
  intro P hP
  have hin : vp_in (nI f) 8 := vp_in_nI hf (by omega)
  obtain ⟨h1, h2, h3, h4, h5, h6, h7⟩ := hc
  have key : ∀ j k I', k + j = np (vL v f) → np n ≤ k → (∀ k', k' ≠ 34 → k' ≠ 36 → I' k' = I k') → (∀ g, g ≠ f → I' 34 g = I 34 g ∧ I' 36 g = I 36 g) → (dr v f (np n) k → I' 34 f = -1 ∧ I' 36 f = 0) → (¬ dr v f (np n) k → I' 34 f = I 34 f ∧ I' 36 f = I 36 f) → P (nI k) I' J := by
    intro j
    induction j with
    | zero =>
      intro k I' hk hkn k1 k2 k3 k4
      have hke : k = np (vL v f) := by omega
      rw [hke] at k3 k4
      have ep : ((I' 32 f) + 7) / 8 = nI (np (vL v f)) := by rw [k1 32 (by decide) (by decide), h2 f hf, pk_div8 (by omega)]
      refine hP _ _ _ ?_
      unfold w_M_pages
      rw [nI_clamp (by omega), ep]
      refine ⟨hin, br_t (nI_le (by omega) (by omega)) ⟨hin, ?_⟩⟩
      refine hq _ ⟨fun g hg => ?_, fun g hg => ?_, fun g hg i hi => ?_, fun g hg => ?_, fun g hg hw => ?_, fun g hg => ?_, fun p hp => ?_⟩ (fun k' a b d => by rw [pu_k a]; exact k1 k' b d)
      · rw [pu_k (by decide), k1 31 (by decide) (by decide)]; exact h1 g hg
      · rw [vSh_L]
        by_cases e : g = f
        · rw [if_pos e, e, pu_s]
        · rw [if_neg e, pu_f e, k1 32 (by decide) (by decide)]; exact h2 g hg
      · rw [pu_k (by decide), k1 33 (by decide) (by decide)]
        refine h3 g hg i ?_
        rw [vSh_L] at hi
        by_cases e : g = f
        · rw [if_pos e] at hi; rw [e]; omega
        · rw [if_neg e] at hi; exact hi
      · rw [pu_k (by decide)]
        by_cases e : g = f
        · rw [e]
          cases d
          · rw [(k4 (fun z => absurd (hd.mpr z) (by decide))).1]; exact h4 f hf
          · rw [(k3 (hd.mp rfl)).1]
            show _ = if fu (vW v) f 0 f = 0 then (-1) else nI (fu (vW v) f 0 f)
            rw [fu_s, if_pos rfl]
        · rw [(k2 g e).1, h4 g hg]
          cases d
          · rfl
          · show _ = if fu (vW v) f 0 g = 0 then (-1) else nI (fu (vW v) f 0 g)
            rw [fu_n e]
      · refine h5 g hg ?_
        cases d
        · exact hw
        · have hw : fu (vW v) f 0 g ≠ 0 := hw
          by_cases e : g = f
          · rw [e, fu_s] at hw; exact absurd rfl hw
          · rw [fu_n e] at hw; exact hw
      · rw [pu_k (by decide)]
        by_cases e : g = f
        · rw [e]
          cases d
          · rw [(k4 (fun z => absurd (hd.mpr z) (by decide))).2]; exact h6 f hf
          · rw [(k3 (hd.mp rfl)).2]
            show _ = bI (fu (vG v) f false f)
            rw [fu_s]; rfl
        · rw [(k2 g e).2, h6 g hg]
          cases d
          · rfl
          · show _ = bI (fu (vG v) f false g)
            rw [fu_n e]
      · rw [pu_k (by decide), k1 37 (by decide) (by decide)]; exact h7 p hp
    | succ j ih =>
      intro k I' hk hkn k1 k2 k3 k4
      have ep : ((I' 32 f) + 7) / 8 = nI (np (vL v f)) := by rw [k1 32 (by decide) (by decide), h2 f hf, pk_div8 (by omega)]
      have hpb := hv.2.1 f hf k (by omega)
      have drs : dr v f (np n) (k + 1) ↔ dr v f (np n) k ∨ vW v f = vC v f k := ⟨fun ⟨a, i, b, d, e⟩ => by
          by_cases ei : i = k
          · right; rw [← e, ei]
          · left; exact ⟨a, i, b, by omega, e⟩, fun z => z.elim (fun ⟨a, i, b, d, e⟩ => ⟨a, i, b, by omega, e⟩) (fun e => ⟨by omega, k, by omega, by omega, e.symm⟩)⟩
      refine hP _ _ _ ?_
      unfold w_M_pages
      rw [nI_clamp (by omega), ep, pk_64, nI_clamp (by omega), nI_1]
      refine ⟨hin, br_f (nI_ge (by omega) (by omega)) ⟨hin, vp_in_nI (by omega) (by omega), ?_⟩⟩
      rw [k1 33 (by decide) (by decide), h3 f hf k (by omega)]
      have he : I' 34 f = nI (vC v f k) ↔ ¬ dr v f (np n) k ∧ vW v f = vC v f k := by
        by_cases hdr : dr v f (np n) k
        · rw [(k3 hdr).1]
          exact ⟨fun z => absurd z.symm (nI_neg1 (by omega)), fun z => absurd hdr z.1⟩
        · rw [(k4 hdr).1, h4 f hf]
          by_cases hw : vW v f = 0
          · rw [if_pos hw, hw]
            exact ⟨fun z => absurd z.symm (nI_neg1 (by omega)), fun z => absurd z.2 (by omega)⟩
          · rw [if_neg hw]
            have := hv.win hf hw
            rw [nI_eq (by omega) (by omega)]
            exact ⟨fun z => ⟨hdr, z⟩, fun z => z.2⟩
      rw [he]
      refine ⟨fun z => ih (k + 1) I' (by omega) (by omega) k1 k2 (fun y => ?_) (fun y => k4 (fun w => y (drs.mpr (Or.inl w)))), fun z => ⟨hin, hin, ?_⟩⟩
      · rcases drs.mp y with w | w
        · exact k3 w
        · by_cases hdr : dr v f (np n) k
          · exact k3 hdr
          · exact absurd ⟨hdr, w⟩ z
      · refine ih (k + 1) _ (by omega) (by omega) (fun k' a b => by rw [pu_k b, pu_k a]; exact k1 k' a b) (fun g hg => ⟨by rw [pu_k (by decide), pu_f hg]; exact (k2 g hg).1, by rw [pu_f hg, pu_k (by decide)]; exact (k2 g hg).2⟩) (fun _ => ⟨by rw [pu_k (by decide), pu_s], by rw [pu_s]; rfl⟩) (fun y => absurd (drs.mpr (Or.inr z.2)) y)
  exact key (np (vL v f) - np n) (np n) I (by omega) (by omega) (fun _ _ _ => rfl) (fun _ _ => ⟨rfl, rfl⟩) (fun ⟨_, i, a, b, _⟩ => absurd b (by omega)) (fun _ => ⟨rfl, rfl⟩)
theorem rcV.j (h : rcV v I J) {f : Nat} (hw : vW v f = 0) (x : Int64) : rcV v I (am_uj J (6 + f) 4 x) := by
  obtain ⟨h1, h2, h3, h4, h5, h6, h7, h8, h9, h10⟩ := h
  refine ⟨h1, h2, h3, h4, fun g hg hgw => ?_, h6, h7, h8, h9, h10⟩
  by_cases e : g = f
  · rw [e] at hgw; exact absurd hw hgw
  · rw [pj_k (by omega)]; exact h5 g hg hgw
theorem rmV.name (h : rmV v I J) {f : Nat} {a : Int32} : rmV (vName v f a) (am_ui I 31 f a) J := by
  obtain ⟨h1, h2, h3, h4, h5, h6, h7⟩ := h
  refine ⟨fun g hg => ?_, fun g hg => ?_, fun g hg i hi => ?_, fun g hg => ?_, h5, fun g hg => ?_, fun p hp => ?_⟩
  · show _ = fu (vN v) f a g
    by_cases e : g = f
    · rw [e, pu_s, fu_s]
    · rw [pu_f e, fu_n e]; exact h1 g hg
  · rw [pu_k (by decide)]; exact h2 g hg
  · rw [pu_k (by decide)]; exact h3 g hg i hi
  · rw [pu_k (by decide)]; exact h4 g hg
  · rw [pu_k (by decide)]; exact h6 g hg
  · rw [pu_k (by decide)]; exact h7 p hp
end
theorem op_truncate {I : am_MI} {J : am_MJ} {a b : Int32} {K : Int32 → am_MI → am_MJ → Prop} (h : INV I J) (hK : ∀ k I1 J1, w_M_truncate a b I1 J1 (fun r I2 J2 => FINi INV k r I2 J2) FF → K k I1 J1) : w_L_truncate a b I J K FF := by
  unfold w_L_truncate w_B_truncate
  have err : ∀ y : Int32, ¬ y ≤ 0 → w_M_truncate_39 a b y I J (fun r I2 J2 => FINi INV y r I2 J2) FF := fun y hy => by
    unfold w_M_truncate_39
    rw [pu_s]
    exact ⟨fun z => absurd z hy, fun _ => fin_i (pu_s ..) (fun z => absurd (by rw [z]; decide) hy) (h.code y)⟩
  rcases h.split with ⟨h4, hm⟩ | ⟨h4, h7, h8⟩
  · refine s_B_entry0 h4 (Or.inl ⟨rfl, hK _ _ _ ?_⟩)
    unfold w_M_truncate
    exact s_M_isReady0 hm ⟨fun z => absurd rfl z, fun _ => err 1 (by decide)⟩
  · obtain ⟨c, v, cur, t, q, bd, hv, hcur, ht, hq, hi, hb, hm⟩ := h.on h4
    have hc := hb.2.1
    have hmv := hm.2.1
    refine s_B_entryOf h4 hc (fun f hf e hn => ?_) (fun hn => Or.inr ⟨rfl, hK _ _ _ ?_⟩)
    · subst e
      have hl := hv.len hf
      have he : I (6 + f) 2 = I 32 f := (hc.2.1 f hf).trans (hmv.2.1 f hf).symm
      have two : (¬ (0 ≤ b ∧ b ≤ I 32 f)) → w_M_truncate (nI f) b I J (fun r I2 J2 => FINi INV 2 r I2 J2) FF := fun hbad => by
        unfold w_M_truncate w_M_truncate_34
        refine s_M_isReady1 h7 h8 ⟨fun _ => s_M_isFile hmv (fun g hg e2 g2 => ⟨fun z => absurd z (by decide), fun _ => ⟨fun _ => err 2 (by decide), fun z => ⟨vp_in_nI hf (by omega), ?_⟩⟩⟩) (fun z => absurd (z f hf rfl) hn), fun z => absurd z (by decide)⟩
        rw [nI_clamp (by omega)]
        exact ⟨fun z2 => absurd ⟨Int32.not_lt.mp z, z2⟩ hbad, fun _ => err 2 (by decide)⟩
      refine ⟨fun hb0 => Or.inr ⟨rfl, hK _ _ _ (two (fun z => absurd hb0 (Int32.not_lt.mpr z.1)))⟩, fun hb0 => ⟨fun hb1 => ?_, fun hb1 => Or.inr ⟨rfl, hK _ _ _ (two (fun z => hb1 (by rw [he]; exact z.2)))⟩⟩⟩
      obtain ⟨n, hn31, rfl⟩ := nI_of hb0
      rw [hc.2.1 f hf] at hb1
      have hnl : n ≤ vL v f := (nI_leI hn31 (by omega)).mp hb1
      obtain ⟨d, hd⟩ : ∃ d : Bool, d = true ↔ dr v f (np n) (np (vL v f)) := by
        by_cases e : dr v f (np n) (np (vL v f))
        · exact ⟨true, fun _ => e, fun _ => rfl⟩
        · exact ⟨false, fun z => absurd z (by decide), fun z => absurd z e⟩
      refine s_D_shorten hv hc hf hnl hd (fun I1 J1 g1 g2 g3 => ⟨in01, hK _ _ _ ?_⟩)
      have hb1' : bS c (vSh v f n d) cur t q bd I1 J1 := hb.vw g1 (g2 0 (by omega)) (g2 1 (by omega)) (g2 3 (by omega)) (g2 17 (by omega)) (g2 18 (by omega)) (g2 19 (by omega)) (g3 1 (by omega)) (g3 2 (by omega)) (g3 20 (by omega)) (g3 22 (by omega))
      have hm1 := (hm.km (I' := I1) (J' := J1) ⟨fun k hk => g2 k (by omega), fun k hk => g3 k (by omega)⟩).out 0 (nI (np (vL v f) - np n)).toInt64
      unfold w_M_truncate
      refine s_M_isReady1 hm1.2.2.2.2.2.1 hm1.2.2.2.2.2.2.1 ⟨fun _ => s_M_isFile hm1.2.1 (fun g hg e2 g2 => ⟨fun z => absurd z (by decide), fun _ => ⟨fun z => absurd z hb0, fun z => ⟨vp_in_nI hf (by omega), ?_⟩⟩⟩) (fun z => absurd (z f hf rfl) hn), fun z => absurd z (by decide)⟩
      rw [nI_clamp (by omega), hm1.2.1.2.1 f hf]
      refine ⟨fun _ => ?_, fun z => absurd hb1 z⟩
      unfold w_M_truncate_39
      rw [pu_s]
      have hm2 := hm1.code 0
      refine ⟨fun _ => s_M_shorten hv hm2.2.1 hf hnl hd (fun I2 f1 f2 => ?_), fun z => absurd (by decide) z⟩
      have kb : kB (am_ui I1 28 0 0) (am_uj J1 45 0 (nI (np (vL v f) - np n)).toInt64) I2 (am_uj J1 45 0 (nI (np (vL v f) - np n)).toInt64) := ⟨fun k hk => f2 k (by omega) (by omega) (by omega), fun _ _ => rfl⟩
      refine fin_i ?_ (fun _ => pj_s ..) ?_
      · rw [f2 28 (by decide) (by decide) (by decide), pu_s]
      · exact INV.of_on (hv.sh hf hnl hd) hcur ht hq hi ((hb1'.out _ _).kb ((kB.rf.ui (by omega) _ _).tr kb)) (hm2.vw f1 (f2 28 (by decide) (by decide) (by decide)) (f2 29 (by decide) (by decide) (by decide)) (f2 40 (by decide) (by decide) (by decide)) (f2 41 (by decide) (by decide) (by decide)) rfl rfl rfl rfl)
    · unfold w_M_truncate w_M_truncate_34
      exact s_M_isReady1 h7 h8 ⟨fun _ => s_M_isFile hmv (fun g hg e2 g2 => absurd (hn g hg e2) g2) (fun _ => ⟨fun _ => err 2 (by decide), fun z => absurd rfl z⟩), fun z => absurd z (by decide)⟩
theorem case11 {L0 : Nat} {xs : Nat → Int32} {x4 : Int32} {I : am_MI} {J : am_MJ} (h0 : 0 ≤ x4.toInt) (h5 : x4.toInt + 5 ≤ L0) (hL : L0 ≤ 2560) (h : INV I J) : w_case11 L0 xs x4 I J INV :=
  ⟨xin (j := 1) h0 h5 hL (by omega), xin (j := 2) h0 h5 hL (by omega), op_truncate h (fun _ _ _ hm => ⟨xin (j := 1) h0 h5 hL (by omega), xin (j := 2) h0 h5 hL (by omega), hm⟩)⟩
theorem op_remove {I : am_MI} {J : am_MJ} {a : Int32} {K : Int32 → am_MI → am_MJ → Prop} (h : INV I J) (hK : ∀ k I1 J1, w_M_remove a I1 J1 (fun r I2 J2 => FINi INV k r I2 J2) FF → K k I1 J1) : w_L_remove a I J K FF := by
  unfold w_L_remove w_B_remove
  have err : ∀ y : Int32, ¬ y ≤ 0 → w_M_remove_25 a y I J (fun r I2 J2 => FINi INV y r I2 J2) FF := fun y hy => by
    unfold w_M_remove_25
    rw [pu_s]
    exact ⟨fun z => absurd z hy, fun _ => fin_i (pu_s ..) (fun z => absurd (by rw [z]; decide) hy) (h.code y)⟩
  rcases h.split with ⟨h4, hm⟩ | ⟨h4, h7, h8⟩
  · refine s_B_entry0 h4 (Or.inl ⟨rfl, hK _ _ _ ?_⟩)
    unfold w_M_remove
    exact s_M_isReady0 hm ⟨fun z => absurd rfl z, fun _ => err 1 (by decide)⟩
  · obtain ⟨c, v, cur, t, q, bd, hv, hcur, ht, hq, hi, hb, hm⟩ := h.on h4
    have hc := hb.2.1
    have hmv := hm.2.1
    refine s_B_entryOf h4 hc (fun f hf e hn => ?_) (fun hn => Or.inr ⟨rfl, hK _ _ _ ?_⟩)
    · subst e
      have hl := hv.len hf
      obtain ⟨d, hd⟩ : ∃ d : Bool, d = true ↔ dr v f (np 0) (np (vL v f)) := by
        by_cases e : dr v f (np 0) (np (vL v f))
        · exact ⟨true, fun _ => e, fun _ => rfl⟩
        · exact ⟨false, fun z => absurd z (by decide), fun z => absurd z e⟩
      have hvs := hv.sh hf (Nat.zero_le _) hd
      have sL : vL (vSh v f 0 d) f = 0 := by rw [vSh_L, if_pos rfl]
      have sW : vW (vSh v f 0 d) f = 0 := Classical.byContradiction (fun z => by
        obtain ⟨i, hi, -⟩ := hvs.2.2.2.1 f hf z
        rw [sL] at hi
        exact absurd hi (by show ¬ i < 0; omega))
      have sG : vG (vSh v f 0 d) f = false := by
        cases hg : vG (vSh v f 0 d) f
        · rfl
        · exact absurd sW (hvs.2.2.2.2 f hf hg)
      have hvr : vOK (vName (vSh v f 0 d) f 0) := by
        obtain ⟨a1, a2, a3, a4, a5⟩ := hvs
        refine ⟨fun g hg e => ?_, a2, a3, a4, a5⟩
        by_cases eg : g = f
        · rw [eg]; exact sL
        · exact a1 g hg ((fu_n eg (vN (vSh v f 0 d)) 0).symm.trans e)
      refine s_D_shorten (n := 0) hv hc hf (Nat.zero_le _) hd (fun I1 J1 g1 g2 g3 => ?_)
      unfold w_E_forget w_E_openWindow
      refine ⟨in01, hK _ _ _ ?_⟩
      have z1 : I1 (6 + f) 1 = 0 := by rw [g1.2.2.1 f hf, sL]; rfl
      have z2 : I1 (6 + f) 2 = 0 := by rw [g1.2.1 f hf, sL]; rfl
      have z3 : I1 (6 + f) 3 = 0 := by rw [g1.2.2.2.1 f hf, sW]; rfl
      have z5 : I1 (6 + f) 5 = 0 := by rw [g1.2.2.2.2.2.1 f hf, sG]; rfl
      rw [pu_id (k := 6 + f) (f := 1) (by rw [pu_f (by decide)]; exact z1), pu_id (k := 6 + f) (f := 2) (by rw [pu_f (by decide)]; exact z2), pu_id (k := 6 + f) (f := 3) (by rw [pu_f (by decide)]; exact z3), pu_id (k := 6 + f) (f := 5) (by rw [pu_f (by decide)]; exact z5)]
      have k1 : ∀ k, k ≠ 6 + f → am_ui I1 (6 + f) 0 0 k = I1 k := fun k hk => pu_k hk ..
      have j1 : ∀ k, k ≠ 6 + f → am_uj J1 (6 + f) 4 0 k = J1 k := fun k hk => pj_k hk ..
      have hb1' : bS c (vName (vSh v f 0 d) f 0) cur t q bd (am_ui I1 (6 + f) 0 0) (am_uj J1 (6 + f) 4 0) := hb.vw ((g1.name hf).j sW 0) (by rw [k1 _ (by omega)]; exact g2 0 (by omega)) (by rw [k1 _ (by omega)]; exact g2 1 (by omega)) (by rw [k1 _ (by omega)]; exact g2 3 (by omega)) (by rw [k1 _ (by omega)]; exact g2 17 (by omega)) (by rw [k1 _ (by omega)]; exact g2 18 (by omega)) (by rw [k1 _ (by omega)]; exact g2 19 (by omega)) (by rw [j1 _ (by omega)]; exact g3 1 (by omega)) (by rw [j1 _ (by omega)]; exact g3 2 (by omega)) (by rw [j1 _ (by omega)]; exact g3 20 (by omega)) (by rw [j1 _ (by omega)]; exact g3 22 (by omega))
      have hm1 := (hm.km (I' := am_ui I1 (6 + f) 0 0) (J' := am_uj J1 (6 + f) 4 0) ⟨fun k hk => by rw [k1 k (by omega)]; exact g2 k (by omega), fun k hk => by rw [j1 k (by omega)]; exact g3 k (by omega)⟩).out 0 (nI (np (vL v f) - np 0)).toInt64
      generalize am_ui I1 (6 + f) 0 0 = I1' at hb1' hm1 ⊢
      generalize am_uj J1 (6 + f) 4 0 = J1' at hb1' hm1 ⊢
      unfold w_M_remove
      refine s_M_isReady1 hm1.2.2.2.2.2.1 hm1.2.2.2.2.2.2.1 ⟨fun _ => s_M_isFile hm1.2.1 (fun g hg e2 g2 => ⟨fun _ => ?_, fun z => absurd z (by decide)⟩) (fun z => absurd (z f hf rfl) hn), fun z => absurd z (by decide)⟩
      unfold w_M_remove_25
      rw [pu_s]
      have hm2 := hm1.code 0
      refine ⟨fun _ => s_M_shorten (n := 0) hv hm2.2.1 hf (Nat.zero_le _) hd (fun I2 f1 f2 => ?_), fun z => absurd (by decide) z⟩
      have kb : kB (am_ui I1' 28 0 0) (am_uj J1' 45 0 (nI (np (vL v f) - np 0)).toInt64) I2 (am_uj J1' 45 0 (nI (np (vL v f) - np 0)).toInt64) := ⟨fun k hk => f2 k (by omega) (by omega) (by omega), fun _ _ => rfl⟩
      have y2 : I2 32 f = 0 := by rw [f1.2.1 f hf, sL]; rfl
      have y4 : I2 34 f = -1 := by rw [f1.2.2.2.1 f hf, sW, if_pos rfl]
      have y6 : I2 36 f = 0 := by rw [f1.2.2.2.2.2.1 f hf, sG]; rfl
      refine s_M_drop (v := v) hf ?_
      rw [pu_id (k := 32) (f := f) (by rw [pu_k (by decide)]; exact y2), pu_id (k := 34) (f := f) (by rw [pu_k (by decide)]; exact y4), pu_id (k := 36) (f := f) (by rw [pu_k (by decide)]; exact y6)]
      refine fin_i ?_ (fun _ => pj_s ..) ?_
      · rw [pu_k (by decide), f2 28 (by decide) (by decide) (by decide), pu_s]
      · refine INV.of_on hvr hcur ht hq hi ((hb1'.out _ _).kb (((kB.rf.ui (by omega) _ _).tr kb).ui (by omega) _ _)) (hm2.vw f1.name ?_ ?_ ?_ ?_ rfl rfl rfl rfl)
        · rw [pu_k (by decide)]; exact f2 28 (by decide) (by decide) (by decide)
        · rw [pu_k (by decide)]; exact f2 29 (by decide) (by decide) (by decide)
        · rw [pu_k (by decide)]; exact f2 40 (by decide) (by decide) (by decide)
        · rw [pu_k (by decide)]; exact f2 41 (by decide) (by decide) (by decide)
    · unfold w_M_remove
      exact s_M_isReady1 h7 h8 ⟨fun _ => s_M_isFile hmv (fun g hg e2 g2 => absurd (hn g hg e2) g2) (fun _ => ⟨fun z => absurd rfl z, fun _ => err 2 (by decide)⟩), fun z => absurd z (by decide)⟩
theorem case12 {L0 : Nat} {xs : Nat → Int32} {x4 : Int32} {I : am_MI} {J : am_MJ} (h0 : 0 ≤ x4.toInt) (h5 : x4.toInt + 5 ≤ L0) (hL : L0 ≤ 2560) (h : INV I J) : w_case12 L0 xs x4 I J INV :=
  ⟨xin (j := 1) h0 h5 hL (by omega), op_remove h (fun _ _ _ hm => ⟨xin (j := 1) h0 h5 hL (by omega), hm⟩)⟩
end PU10
