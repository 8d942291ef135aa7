section PU12
section
variable {c c' : CH} {v v' : VT} {cur t : Nat} {q : QT} {bd : Nat → Int32} {I I' : am_MI} {J J' : am_MJ}
theorem pgc.eq {f p : Nat} (h : pgc v f p) (eL : vL v' = vL v) (eC : vC v' = vC v) : pgc v' f p := by
  unfold pgc at h ⊢
  rw [eL, eC]
  exact h
theorem pgc_f {f p : Nat} (h : fre v p) (hp : p < 101) : pgc v f p := ⟨h.1, hp, fun g hg j hj e => absurd ⟨g, hg, j, hj, e⟩ h.2.1⟩
theorem pgc_l (hv : vOK v) {f : Nat} (hf : f < 8) (h0 : vL v f % 8 ≠ 0) : pgc v f (vC v f (vL v f / 8)) := by
  have hnp := np_n h0
  have := hv.2.1 f hf (vL v f / 8) (by omega)
  exact ⟨this.1, this.2, fun g hg j hj e => hv.2.2.1 g hg f hf j hj _ (by omega) e⟩
/-- the reference, power off behind its transfers -/
theorem s_M_app160o {Q : Int32 → am_MI → am_MJ → Prop} {X : String → am_MI → am_MJ → Prop} {x1 x2 x3 x5 x6 : Int32} (h : mO c bd I J) (hq : ∀ I', mO c bd I' J → I' 28 0 = 1 → kB I J I' J → Q 0 I' J) : w_M_append_160 x1 x2 x3 x5 x6 I J Q X := by
  unfold w_M_append_160 w_M_append_173
  rw [h.2.1]
  refine ⟨fun _ => ?_, fun z => absurd rfl z⟩
  rw [pu_s]
  exact ⟨fun z => absurd z (by decide), fun _ => hq _ (h.u28 (by decide) _) (pu_s ..) (kB.rf.ui (by omega) _ _)⟩
/-- a new page, on the reference's side -/
theorem s_M_app160n {Q : Int32 → am_MI → am_MJ → Prop} {X : String → am_MI → am_MJ → Prop} {f p : Nat} {b : Int32} {x : Int64} {J2 : am_MJ} (hv : vOK v) (hm : mS c v cur t q bd I J) (hf : f < 8) (hp : pgc v f p) (b2 : ∀ k, k ≠ 35 → J2 k = J k) (b5 : J2 35 f = x) (b6 : ∀ g, g ≠ f → J2 35 g = J 35 g)
    (hq : ∀ I' J', mS c (vApp v f p (pt x (nI (vL v f % 8)) b)) cur t q bd I' J' → I' 28 0 = 0 → kB I J I' J' → Q (nI (vL v f + 1)) I' J') : w_M_append_160 (nI f) b (nI (64 * f + vL v f / 8)) 1 (nI p) I J2 Q X := by
  unfold w_M_append_160 w_M_append_173
  have hl := hv.len hf
  have hp1 := hp.1
  rw [hm.2.2.2.2.2.1]
  refine ⟨fun z => absurd z (by decide), fun _ => ?_⟩
  rw [pu_s, nI_clamp (by omega), nI_clamp (by omega)]
  refine ⟨fun _ => ⟨fun z => absurd z (by decide), fun _ => ⟨vp_in_nI (by omega) (by omega), vp_in_nI hf (by omega), ?_⟩⟩, fun z => absurd (by decide) z⟩
  refine s_M_app206 hv (hm.code 0) hf (by omega) (fun k a b => by rw [pu_k b, pu_k a]) b2 (fun k => ?_) (fun g => ?_) b5 b6 (fun I' J' g1 g2 g3 => hq I' J' g1 ?_ ⟨fun k hk => ?_, fun k hk => ?_⟩)
  · rw [pu_k (by decide)]
    by_cases e : k = 64 * f + vL v f / 8
    · rw [if_pos e, e, pu_s]
    · rw [if_neg e, pu_f e]
  · by_cases e : g = f
    · rw [if_pos e, e, pu_s]
    · rw [if_neg e, pu_f e, pu_k (by decide)]
  · rw [g2 28 (by decide) (by decide) (by decide) (by decide), pu_s]
  · rw [g2 k (by omega) (by omega) (by omega) (by omega), pu_k (by omega)]
  · exact g3 k (by omega)
/-- the last page as it is, on the reference's side -/
theorem s_M_app160s {Q : Int32 → am_MI → am_MJ → Prop} {X : String → am_MI → am_MJ → Prop} {f : Nat} {b x6 : Int32} (hv : vOK v) (hm : mS c v cur t q bd I J) (hf : f < 8) (h0 : vL v f % 8 ≠ 0) (hw : vW v f = vC v f (vL v f / 8))
    (hq : ∀ I' J', mS c (vApp v f (vC v f (vL v f / 8)) (pt (vB v f) (nI (vL v f % 8)) b)) cur t q bd I' J' → I' 28 0 = 0 → kB I J I' J' → Q (nI (vL v f + 1)) I' J') : w_M_append_160 (nI f) b (nI (64 * f + vL v f / 8)) 0 x6 I J Q X := by
  unfold w_M_append_160 w_M_append_173
  have hl := hv.len hf
  have hnp := np_n h0
  have hpb := hv.2.1 f hf (vL v f / 8) (by omega)
  rw [hm.2.2.2.2.2.1]
  refine ⟨fun z => absurd z (by decide), fun _ => ?_⟩
  rw [pu_s]
  refine ⟨fun _ => ⟨fun _ => ?_, fun z => absurd rfl z⟩, fun z => absurd (by decide) z⟩
  have hm0 := hm.code 0
  refine s_M_app206 hv hm0 hf (by omega) (fun k a b => rfl) (fun _ _ => rfl) (fun k => ?_) (fun g => ?_) (hm.2.1.2.2.2.2.1 f hf (by omega)) (fun _ _ => rfl) (fun I' J' g1 g2 g3 => hq I' J' g1 ?_ ⟨fun k hk => ?_, fun k hk => ?_⟩)
  · by_cases e : k = 64 * f + vL v f / 8
    · rw [if_pos e, e]; exact hm0.2.1.2.2.1 f hf _ (by omega)
    · rw [if_neg e]
  · by_cases e : g = f
    · rw [if_pos e, e, hm0.2.1.2.2.2.1 f hf, if_neg (by omega), hw]
    · rw [if_neg e]
  · rw [g2 28 (by decide) (by decide) (by decide) (by decide), pu_s]
  · rw [g2 k (by omega) (by omega) (by omega) (by omega), pu_k (by omega)]
  · exact g3 k (by omega)
end
theorem op_append {I : am_MI} {J : am_MJ} {a b : Int32} {K : Int32 → am_MI → am_MJ → Prop} (h : INV I J) (hK : ∀ k I1 J1, w_M_append a b I1 J1 (fun r I2 J2 => FINi INV k r I2 J2) FF → K k I1 J1) : w_L_append a b I J K FF := by
  unfold w_L_append w_B_append
  have err : ∀ y : Int32, ¬ y ≤ 0 → w_M_append_25 a b y I J (fun r I2 J2 => FINi INV y r I2 J2) FF := fun y hy => by
    unfold w_M_append_25
    rw [pu_s]
    exact ⟨fun z => absurd z hy, fun _ => fin_i (pu_s ..) (fun z => absurd (by rw [z]; decide) hy) (h.code y)⟩
  rcases h.split with ⟨h4, hm⟩ | ⟨h4, h7, h8⟩
  · refine s_B_entry0 h4 (Or.inl ⟨rfl, hK _ _ _ ?_⟩)
    unfold w_M_append
    exact s_M_isReady0 hm ⟨fun z => absurd rfl z, fun _ => err 1 (by decide)⟩
  · obtain ⟨c, v, cur, t, q, bd, hv, hcur, ht, hq, hi, hb, hm⟩ := h.on h4
    have hc := hb.2.1
    refine s_B_entryOf h4 hc (fun f hf e hn => ?_) (fun hn => Or.inr (Or.inl ⟨rfl, hK _ _ _ ?_⟩))
    · subst e
      have hl := hv.len hf
      have h61 := hv.pg hf
      have ed : nI (vL v f) / 8 = nI (vL v f / 8) := pk_div (d := 8) (by omega) (by omega) (by omega)
      have er : nI (vL v f) - nI (vL v f) / 8 * 8 = nI (vL v f % 8) := pk_rem (d := 8) (by omega) (by omega) (by omega)
      have e0 : nI (vL v f % 8) = 0 ↔ vL v f % 8 = 0 := nI_eq (b := 0) (by omega) (by omega)
      rw [hc.2.1 f hf, er, e0]
      have ref : ∀ (k : Int32) I1 J1, mS c v cur t q bd I1 J1 → (vL v f % 8 ≠ 0 → w_M_append_69 (nI f) b (nI (64 * f + vL v f / 8)) 0 (am_ui I1 28 0 0) J1 (fun r I2 J2 => FINi INV k r I2 J2) FF) → (vL v f % 8 = 0 → w_M_append_69 (nI f) b (nI (64 * f + vL v f / 8)) 1 (am_ui I1 28 0 0) J1 (fun r I2 J2 => FINi INV k r I2 J2) FF) → w_M_append (nI f) b I1 J1 (fun r I2 J2 => FINi INV k r I2 J2) FF := fun k I1 J1 hm1 w1 w2 => by
        unfold w_M_append
        refine s_M_isReady1 hm1.2.2.2.2.2.1 hm1.2.2.2.2.2.2.1 ⟨fun _ => s_M_isFile hm1.2.1 (fun g hg e2 g2 => ⟨fun _ => ?_, fun z => absurd z (by decide)⟩) (fun z => absurd (z f hf rfl) hn), fun z => absurd z (by decide)⟩
        unfold w_M_append_25
        rw [pu_s, nI_clamp (by omega), (hm1.code 0).2.1.2.1 f hf, er, ed, e0, pk_64]
        exact ⟨fun _ => ⟨vp_in_nI hf (by omega), vp_in_nI hf (by omega), w1, w2⟩, fun z => absurd (by decide) z⟩
      -- the least free page, or none
      have lf : ∀ (Q : Int32 → am_MI → am_MJ → Prop) I1 J1 p, mS c v cur t q bd I1 J1 → fre v p → p < 101 → (∀ r, r < p → ¬ fre v r) → Q (nI p) I1 J1 → w_M_leastFree I1 J1 Q FF := fun Q I1 J1 p hm1 f1 f2 f3 hQ => by
        refine s_M_leastFree hv hm1.2.1 (fun p' g2 g1 g3 => ?_) (fun z => absurd f1 (z p f2))
        have : p' = p := by
          rcases Nat.lt_trichotomy p' p with z | z | z
          · exact absurd g1 (f3 p' z)
          · exact z
          · exact absurd f1 (g3 p z)
        rw [this]; exact hQ
      have none3 : ∀ x4 : Int32, (∀ r, r < 101 → ¬ fre v r) → w_M_append_95 (nI f) b (nI (64 * f + vL v f / 8)) x4 1 (am_ui I 28 0 0) J (fun r I2 J2 => FINi INV 3 r I2 J2) FF := fun x4 hno => by
        unfold w_M_append_95
        refine ⟨fun z => absurd z (by decide), fun _ => s_M_leastFree hv (hm.code 0).2.1 (fun p g2 g1 _ => absurd g1 (hno p g2)) (fun _ => ?_)⟩
        unfold w_M_append_110
        refine ⟨fun z => absurd z (by decide), fun _ => ⟨fun z => absurd z (by decide), fun _ => ?_⟩⟩
        rw [pu_ss]
        exact fin_i (pu_s ..) (fun z => absurd z (by decide)) (h.code 3)
      have eS := @aSv_eq c v f
      refine ⟨fun hr => ?_, fun hr => ?_⟩
      · -- the last page is not full
        unfold w_B_openLastPage
        have hnp := np_n hr
        have hpb := hv.2.1 f hf (vL v f / 8) (by omega)
        have eN : nI (np (vL v f)) - 1 = nI (vL v f / 8) := by rw [hnp]; exact nI_pred _
        rw [hc.2.1 f hf]
        refine s_B_pagesFor (by omega) ?_
        rw [eN]
        refine s_D_pageAt hv hc hf (by omega) ⟨vp_in_nI hpb.2 (by omega), ?_⟩
        rw [nI_clamp (by omega), hc.2.2.2.2.2.2.2.2.2 _ hpb.2, bI0]
        generalize hlp : vC v f (vL v f / 8) = lp at hpb
        have eD := @aLd_eq c v f lp
        have hvl : vOK (aLd c v f lp).2 := hv.ld ⟨_, by omega, hlp⟩
        have hwl : vW (aLd c v f lp).2 f ≠ 0 := by rw [eD.2.2.2.2]; omega
        have rm : ∀ (k : Int32) I1 J1, mS c v cur t q bd I1 J1 → vp_in (nI (64 * f + vL v f / 8)) 512 ∧ (am_ui I1 28 0 0) 33 (nI (64 * f + vL v f / 8)).toNatClampNeg = nI lp := fun k I1 J1 hm1 => by
          rw [nI_clamp (by omega)]
          refine ⟨vp_in_nI (by omega) (by omega), ?_⟩
          rw [(hm1.code 0).2.1.2.2.1 f hf _ (by omega), hlp]
        -- the reference's load
        have ld : ∀ (k : Int32) (x5 x6 : Int32) I1 J1, mS c v cur t q bd I1 J1 → w_M_load (nI f) (nI lp) (am_ui I1 28 0 0) J1 (fun I18 J19 => w_M_append_160 (nI f) b (nI (64 * f + vL v f / 8)) x5 x6 I18 J19 (fun r I2 J2 => FINi INV k r I2 J2) FF) FF → w_M_append_129 (nI f) b (nI (64 * f + vL v f / 8)) 0 x5 x6 (am_ui I1 28 0 0) J1 (fun r I2 J2 => FINi INV k r I2 J2) FF := fun k x5 x6 I1 J1 hm1 w => by
          unfold w_M_append_129
          obtain ⟨r1, r2⟩ := rm k I1 J1 hm1
          rw [r2]
          exact ⟨fun _ => ⟨r1, w⟩, fun z => absurd rfl z⟩
        have offR : ∀ (x5 x6 : Int32) I1 J1, bO (cLd c v f) bd I1 J1 → oLd c v f lp → mS c v cur t q bd I1 J1 → w_M_load (nI f) (nI lp) (am_ui I1 28 0 0) J1 (fun I18 J19 => w_M_append_160 (nI f) b (nI (64 * f + vL v f / 8)) x5 x6 I18 J19 (fun r I2 J2 => FINi INV 1 r I2 J2) FF) FF := fun x5 x6 I1 J1 h1 ho hm1 => by
          refine s_M_load hv (hm1.code 0) hf hpb.2 (by omega) (fun _ I2 J2 g1 g2 => s_M_app160o g1 (fun I3 g3 g4 g5 => ?_)) (fun z => absurd ho z)
          exact fin_i g4 (fun z => absurd z (by decide)) (INV.of_off ((hi.mv hcur (cLd_40 hv hf)).OI hcur ht) (h1.kb (((kB.rf.ui (by omega) _ _).tr g2).tr g5)) g3)
        refine ⟨fun hh => ?_, fun hh => ?_⟩
        · have hh1 : vH v lp = true := by
            cases hx : vH v lp
            · exact absurd hx hh
            · rfl
          have go95 : ∀ (k : Int32) I1 J1, mS c v cur t q bd I1 J1 → w_M_append_95 (nI f) b (nI (64 * f + vL v f / 8)) 0 1 (am_ui I1 28 0 0) J1 (fun r I2 J2 => FINi INV k r I2 J2) FF → w_M_append_69 (nI f) b (nI (64 * f + vL v f / 8)) 0 (am_ui I1 28 0 0) J1 (fun r I2 J2 => FINi INV k r I2 J2) FF := fun k I1 J1 hm1 w => by
            unfold w_M_append_69 w_M_append_90
            obtain ⟨r1, r2⟩ := rm k I1 J1 hm1
            rw [r2, nI_clamp (by omega), (hm1.code 0).2.1.2.2.2.2.2.2 lp hpb.2, hh1]
            exact ⟨fun z => absurd rfl z, fun _ => ⟨r1, vp_in_nI hpb.2 (by omega), fun z => absurd z (by decide), fun _ => w⟩⟩
          unfold w_B_neededFreePage
          refine s_D_leastFree hc (fun p f2 f1 f3 => ⟨fun _ => ?_, fun z => absurd z (nI_neg1 (by omega))⟩) (fun hno => ⟨fun z => absurd rfl z, fun _ => Or.inr (Or.inr ⟨rfl, hK _ _ _ (ref 3 I J hm (fun _ => go95 3 I J hm (none3 0 hno)) (fun z => absurd z hr))⟩)⟩)
          have f4 := f1.1
          have hpg := pgc_f (f := f) f1 f2
          have go110 : ∀ (k : Int32) I1 J1, mS c v cur t q bd I1 J1 → w_M_load (nI f) (nI lp) (am_ui I1 28 0 0) J1 (fun I18 J19 => w_M_append_160 (nI f) b (nI (64 * f + vL v f / 8)) 1 (nI p) I18 J19 (fun r I2 J2 => FINi INV k r I2 J2) FF) FF → w_M_append (nI f) b I1 J1 (fun r I2 J2 => FINi INV k r I2 J2) FF := fun k I1 J1 hm1 w => by
            refine ref k I1 J1 hm1 (fun _ => go95 k I1 J1 hm1 ?_) (fun z => absurd z hr)
            unfold w_M_append_95
            refine ⟨fun z => absurd z (by decide), fun _ => lf _ _ _ p (hm1.code 0) f1 f2 f3 ?_⟩
            unfold w_M_append_110
            exact ⟨fun z => absurd z (by decide), fun _ => ⟨fun _ => ld k 1 (nI p) I1 J1 hm1 w, fun z => absurd (nI_pos' (by omega)) z⟩⟩
          refine s_B_load hv hb hf hpb.2 (fun ho I1 J1 h1 h2 => Or.inl ⟨rfl, hK _ _ _ (go110 1 I1 J1 (hm.km h2) (offR 1 (nI p) I1 J1 h1 ho (hm.km h2)))⟩) (fun ho I1 J1 h1 h2 => ?_)
          have hpl := hpg.eq eD.2.1 eD.2.2.1
          have hus : ¬ used (aLd c v f lp).2 p := by
            unfold used
            rw [eD.2.1, eD.2.2.1]
            exact f1.2.1
          have key := @s_B_repl (aLd c v f lp).1 (aLd c v f lp).2 cur t q bd I1 J1
          have key := key (Q := fun r3 I1 J2 => vp_in (0 : Int32) 1 ∧ K 0 I1 (am_uj J2 45 (0 : Int32).toNatClampNeg r3.toInt64)) (X := fun E I5 J6 => E = "java/lang/IllegalStateException" ∧ K 1 I5 J6 ∨ E = "java/lang/IllegalArgumentException" ∧ K 2 I5 J6 ∨ E = "java/lang/UnsupportedOperationException" ∧ K 3 I5 J6) (X1 := FF) (X2 := FF) (b := b) hvl h1 hf (by rw [eD.2.1]; exact hr) hpl hus hwl
          rw [eD.2.1] at key
          refine key (fun I2 J2 g1 g2 => ⟨in01, hK _ _ _ ?_⟩)
          have hm2 := (hm.km (h2.tr g2)).out 0 (nI (vL v f + 1)).toInt64
          refine go110 0 _ _ hm2 (s_M_load hv (hm2.code 0) hf hpb.2 (by omega) (fun z => absurd z ho) (fun _ I3 J3 g3 g4 => ?_))
          have key2 := @s_M_app160n (aLd c v f lp).1 (aLd c v f lp).2 cur t q bd I3 J3
          have key2 := key2 (Q := fun r I2 J2 => FINi INV 0 r I2 J2) (X := FF) (b := b) (J2 := J3) hvl g3 hf hpl (fun _ _ => rfl) (g3.2.1.2.2.2.2.1 f hf hwl) (fun _ _ => rfl)
          rw [eD.2.1] at key2
          refine key2 (fun I4 J4 k1 k2 k3 => fin_i k2 (fun _ => ?_) ?_)
          · rw [k3.2 45 (Or.inr rfl), g4.2 45 (Or.inr rfl)]
            exact pj_s ..
          · exact INV.of_on (hvl.app hf (by rw [eD.1]; exact hn) hpl) hcur ht hq (hi.mv hcur (aLd_40 hv hf)) ((g1.out _ _).kb (((kB.rf.ui (by omega) _ _).tr g4).tr k3)) k1
        · have go110 : ∀ (k : Int32) I1 J1, mS c v cur t q bd I1 J1 → w_M_load (nI f) (nI lp) (am_ui I1 28 0 0) J1 (fun I18 J19 => w_M_append_160 (nI f) b (nI (64 * f + vL v f / 8)) 0 (-1) I18 J19 (fun r I2 J2 => FINi INV k r I2 J2) FF) FF → w_M_append (nI f) b I1 J1 (fun r I2 J2 => FINi INV k r I2 J2) FF := fun k I1 J1 hm1 w => by
            refine ref k I1 J1 hm1 (fun _ => ?_) (fun z => absurd z hr)
            unfold w_M_append_69
            obtain ⟨r1, r2⟩ := rm k I1 J1 hm1
            rw [r2, nI_clamp (by omega), (hm1.code 0).2.1.2.2.2.2.2.2 lp hpb.2, hh]
            refine ⟨fun z => absurd rfl z, fun _ => ⟨r1, vp_in_nI hpb.2 (by omega), fun _ => ?_, fun z => absurd rfl z⟩⟩
            unfold w_M_append_95 w_M_append_110
            exact ⟨fun _ => ⟨fun _ => ld k 0 (-1) I1 J1 hm1 w, fun z => absurd rfl z⟩, fun z => absurd rfl z⟩
          refine s_B_load hv hb hf hpb.2 (fun ho I1 J1 h1 h2 => Or.inl ⟨rfl, hK _ _ _ (go110 1 I1 J1 (hm.km h2) (offR 0 (-1) I1 J1 h1 ho (hm.km h2)))⟩) (fun ho I1 J1 h1 h2 => ?_)
          have hlp2 : vC (aLd c v f lp).2 f (vL (aLd c v f lp).2 f / 8) = lp := by rw [eD.2.1, eD.2.2.1]; exact hlp
          have hr2 : vL (aLd c v f lp).2 f % 8 ≠ 0 := by rw [eD.2.1]; exact hr
          have hpl := pgc_l hvl hf hr2
          have key := @s_B_same (aLd c v f lp).1 (aLd c v f lp).2 cur t q bd I1 J1
          have key := key (Q := fun r3 I1 J2 => vp_in (0 : Int32) 1 ∧ K 0 I1 (am_uj J2 45 (0 : Int32).toNatClampNeg r3.toInt64)) (X := fun E I5 J6 => E = "java/lang/IllegalStateException" ∧ K 1 I5 J6 ∨ E = "java/lang/IllegalArgumentException" ∧ K 2 I5 J6 ∨ E = "java/lang/UnsupportedOperationException" ∧ K 3 I5 J6) (b := b) hvl h1 hf hr2 hpl (eD.2.2.2.2.trans hlp2.symm)
          rw [hlp2, eD.2.1] at key
          refine key (fun I2 J2 g1 g2 => ⟨in01, hK _ _ _ ?_⟩)
          have hm2 := (hm.km (h2.tr g2)).out 0 (nI (vL v f + 1)).toInt64
          refine go110 0 _ _ hm2 (s_M_load hv (hm2.code 0) hf hpb.2 (by omega) (fun z => absurd z ho) (fun _ I3 J3 g3 g4 => ?_))
          have key2 := @s_M_app160s (aLd c v f lp).1 (aLd c v f lp).2 cur t q bd I3 J3
          have key2 := key2 (Q := fun r I2 J2 => FINi INV 0 r I2 J2) (X := FF) (b := b) (x6 := -1) hvl g3 hf hr2 (eD.2.2.2.2.trans hlp2.symm)
          rw [hlp2, eD.2.1] at key2
          refine key2 (fun I4 J4 k1 k2 k3 => fin_i k2 (fun _ => ?_) ?_)
          · rw [k3.2 45 (Or.inr rfl), g4.2 45 (Or.inr rfl)]
            exact pj_s ..
          · rw [hlp2] at hpl
            exact INV.of_on (hvl.app hf (by rw [eD.1]; exact hn) hpl) hcur ht hq (hi.mv hcur (aLd_40 hv hf)) ((g1.out _ _).kb (((kB.rf.ui (by omega) _ _).tr g4).tr k3)) k1
      · -- a new page
        unfold w_B_openNewPage w_B_neededFreePage
        have go95 : ∀ (k : Int32) I1 J1, w_M_append_95 (nI f) b (nI (64 * f + vL v f / 8)) 1 1 (am_ui I1 28 0 0) J1 (fun r I2 J2 => FINi INV k r I2 J2) FF → w_M_append_69 (nI f) b (nI (64 * f + vL v f / 8)) 1 (am_ui I1 28 0 0) J1 (fun r I2 J2 => FINi INV k r I2 J2) FF := fun k I1 J1 w => by
          unfold w_M_append_69 w_M_append_90
          exact ⟨fun _ => w, fun z => absurd z (by decide)⟩
        refine s_D_leastFree hc (fun p f2 f1 f3 => ⟨fun _ => ?_, fun z => absurd z (nI_neg1 (by omega))⟩) (fun hno => ⟨fun z => absurd rfl z, fun _ => Or.inr (Or.inr ⟨rfl, hK _ _ _ (ref 3 I J hm (fun z => absurd hr z) (fun _ => go95 3 I J (none3 1 hno)))⟩)⟩)
        have f4 := f1.1
        have hpg := pgc_f (f := f) f1 f2
        have go110 : ∀ (k : Int32) I1 J1, mS c v cur t q bd I1 J1 → w_M_save (nI f) (am_ui I1 28 0 0) J1 (fun I33 J34 => vp_in (nI f) 8 ∧ w_M_append_160 (nI f) b (nI (64 * f + vL v f / 8)) 1 (nI p) I33 (am_uj J34 35 (nI f).toNatClampNeg 0) (fun r I2 J2 => FINi INV k r I2 J2) FF) FF → w_M_append (nI f) b I1 J1 (fun r I2 J2 => FINi INV k r I2 J2) FF := fun k I1 J1 hm1 w => by
          refine ref k I1 J1 hm1 (fun z => absurd hr z) (fun _ => go95 k I1 J1 ?_)
          unfold w_M_append_95
          refine ⟨fun z => absurd z (by decide), fun _ => lf _ _ _ p (hm1.code 0) f1 f2 f3 ?_⟩
          unfold w_M_append_110 w_M_append_129
          exact ⟨fun z => absurd z (by decide), fun _ => ⟨fun _ => ⟨fun z => absurd z (by decide), fun _ => w⟩, fun z => absurd (nI_pos' (by omega)) z⟩⟩
        have hin : vp_in (nI f) 8 := vp_in_nI hf (by omega)
        refine s_B_save hv hb hf (fun ho I1 J1 h1 h2 => Or.inl ⟨rfl, hK _ _ _ (go110 1 I1 J1 (hm.km h2) ?_)⟩) (fun ho I1 J1 h1 h2 => ?_)
        · refine s_M_save hv ((hm.km h2).code 0) hf (fun _ I2 J2 g1 g2 => ⟨hin, s_M_app160o (g1.uj (by decide) (by decide) _ _) (fun I3 g3 g4 g5 => ?_)⟩) (fun z => absurd ho z)
          exact fin_i g4 (fun z => absurd z (by decide)) (INV.of_off (hi.OI hcur ht) (h1.kb ((((kB.rf.ui (by omega) _ _).tr g2).uj (by decide) (by decide) _ _).tr g5)) g3)
        · have hvl : vOK (aSv c v f).2 := hv.asv
          have hpl := hpg.eq eS.2.1 eS.2.2.1
          have key := @s_B_new (aSv c v f).1 (aSv c v f).2 cur t q bd I1 J1
          have key := key (Q := fun r3 I1 J2 => vp_in (0 : Int32) 1 ∧ K 0 I1 (am_uj J2 45 (0 : Int32).toNatClampNeg r3.toInt64)) (X := fun E I5 J6 => E = "java/lang/IllegalStateException" ∧ K 1 I5 J6 ∨ E = "java/lang/IllegalArgumentException" ∧ K 2 I5 J6 ∨ E = "java/lang/UnsupportedOperationException" ∧ K 3 I5 J6) (X1 := FF) (X2 := FF) (b := b) hvl h1 hf (by rw [eS.2.1]; exact hr) hpl
          rw [eS.2.1] at key
          refine key (fun I2 J2 g1 g2 => ⟨in01, hK _ _ _ ?_⟩)
          have hm2 := (hm.km (h2.tr g2)).out 0 (nI (vL v f + 1)).toInt64
          refine go110 0 _ _ hm2 (s_M_save hv (hm2.code 0) hf (fun z => absurd z ho) (fun _ I3 J3 g3 g4 => ⟨hin, ?_⟩))
          rw [nI_clamp (by omega)]
          have key2 := @s_M_app160n (aSv c v f).1 (aSv c v f).2 cur t q bd I3 J3
          have key2 := key2 (Q := fun r I2 J2 => FINi INV 0 r I2 J2) (X := FF) (b := b) (J2 := am_uj J3 35 f 0) hvl g3 hf hpl (fun k hk => pj_k hk ..) (pj_s ..) (fun g hg => pj_f hg ..)
          rw [eS.2.1] at key2
          refine key2 (fun I4 J4 k1 k2 k3 => fin_i k2 (fun _ => ?_) ?_)
          · rw [k3.2 45 (Or.inr rfl), g4.2 45 (Or.inr rfl)]
            exact pj_s ..
          · exact INV.of_on (hvl.app hf (by rw [eS.1]; exact hn) hpl) hcur ht hq (hi.mv hcur (aSv_40 hv hf)) ((g1.out _ _).kb (((kB.rf.ui (by omega) _ _).tr g4).tr k3)) k1
    · unfold w_M_append
      exact s_M_isReady1 h7 h8 ⟨fun _ => s_M_isFile hm.2.1 (fun g hg e2 g2 => absurd (hn g hg e2) g2) (fun _ => ⟨fun z => absurd rfl z, fun _ => err 2 (by decide)⟩), fun z => absurd z (by decide)⟩
theorem case9 {L0 : Nat} {xs : Nat → Int32} {x4 : Int32} {I : am_MI} {J : am_MJ} (h0 : 0 ≤ x4.toInt) (h5 : x4.toInt + 5 ≤ L0) (hL : L0 ≤ 2560) (h : INV I J) : w_case9 L0 xs x4 I J INV :=
  ⟨xin (j := 1) h0 h5 hL (by omega), xin (j := 2) h0 h5 hL (by omega), op_append h (fun _ _ _ hm => ⟨xin (j := 1) h0 h5 hL (by omega), xin (j := 2) h0 h5 hL (by omega), hm⟩)⟩
end PU12
