def R_law : String := "BubbleBoxLaw"
def lw_P (b : Addr) (xs : List Int32) (args : Array Value) (s : State) : Prop := args = #[.ref b] ∧ s.IntsAt b xs ∧ xs.length ≤ 2560 ∧ (Jvm.Cond.and given_1 narrow_1).before args s = true
def lw_Q (_ : Array Value) (s : State) (o : Outcome) (t : State) : Prop := o = .returned (some (.int 1)) ∧ Framed s o t [] 601024 7293034
def lw_Z (below : List Frame) (a : Array Value) (s : State) : State → Prop := fun t => ∃ o, t.status = .running ∧ Ended t below o ∧ lw_Q a s o t
/-- the law's own end, with 1 on the stack, nothing written that was there before, its room as the claim has it -/
theorem lw_ret {p : Program} {l : Launch} {e : Env} {s : State} {m : MethodId} {below : List Frame} {meth : Method} {c : Code} {b : Nat} (hx : p.tables.exec = Jvm.exec) (hb : c.code = code) (hr : meth.sig.returnType = ret) (hlocks : meth.locks = false) {pc : Nat} {H : Heap} {ls : Array Slot} (hdg : decode code pc = .ok (.ireturn, 1)) : W p l e room_1 s m #[Value.ref b] below meth c H [] 601024 7293034 (lw_Z below #[Value.ref b] s) (F0 m pc ls [.int 1]) := by
  intro T hT X
  obtain ⟨fs, hret, hrun, hended, hW, hframe⟩ := X.leave (v := some (.int 1)) (hlocks := hlocks) (fun h => by rw [hr] at h; cases h)
  have hmeth' : T.vm.method? m = some meth := X.method'
  refine ⟨T.setFrames fs, ?_, .returned (some (.int 1)), hrun, hended, rfl, ⟨_, rfl⟩, hW, hframe⟩
  jvm_step X.here [X.here.top, hx, hb, hdg, hmeth', hr, ret, narrow_b1]
  (try refine ⟨rfl, ?_⟩); (try refine ⟨rfl, ?_⟩)
  first | (intro acts; rw [hret _ acts rfl rfl rfl]) | rw [hret _ _ rfl rfl rfl]
  exact Steps.refl _
/-- what holds at the law's entry: the machine, the code, the tables' words (any of lw_tbl by 'hts w (by decide +kernel)'), the script of L ints xs at the cell b, what the Statement gives of the start (any of its parts by flat_of_before) -/
def lw_At (p : Program) (s : State) (m : MethodId) (meth : Method) (c : Code) (b L : Nat) (xs : Nat → Int32) : Prop :=
  p.tables.exec = Jvm.exec ∧ c.code = code ∧ meth.sig.returnType = ret ∧ c.maxLocals = 8 ∧ s.vm.findClass R_law = some m.cls ∧ (∀ w ∈ lw_tbl, w.before #[Value.ref b] s = true) ∧ va_X b L xs s s.heap ∧ b < s.heap.size ∧ meth.locks = false ∧ (Jvm.Cond.and given_1 narrow_1).before #[Value.ref b] s = true
section AMGL
theorem am_wRA {s : State} {c : ClassId} {k : Class} {comp : ClassId} {ty : FieldType} (h2 : s.vm.classes[c]? = some k) (h3 : k.kind = .array comp ty) : ArrOfT s c ty := fun n z => ⟨fun k h => (by cases h), k, h2, comp, h3⟩
def lw_At2 (p : Program) (l : Launch) (s : State) (m : MethodId) (meth : Method) (c : Code) (b L : Nat) (xs : Nat → Int32) : Prop :=
  lw_At p s m meth c b L xs ∧ l.stackTraces = false ∧ c.exceptionTable.toList = tableOf []
theorem am_gN {s : State} {b cB : Nat} (hta : ∀ w ∈ tables_1, w.before #[Value.ref b] s = true) (hts : ∀ w ∈ lw_tbl, w.before #[Value.ref b] s = true) (hgv : ∀ c ∈ flatC (Jvm.Cond.and given_1 narrow_1), c.before #[Value.ref b] s = true) (kB : s.vm.findClass "BubbleBox" = some cB) : am_N s := by
  have hstr : ∀ (k9 : Nat) (tx : String), (Cond.stringRef "BubbleBox" k9 tx).before #[Value.ref b] s = true → ∃ sa, vk_R "BubbleBox" k9 tx sa s := by
    intro k9 tx h
    obtain ⟨_, _, _, sa, -, -, -, -, -, hev⟩ := Cond.stringRef_spec kB h
    exact ⟨sa, vk_R.of h hev⟩
  exact ⟨fun w hw => va_Nw.of (am_nk_ot (am_TN_k w hw)) (hts w (List.mem_filter.mp hw).1), List.forall_mem_cons.mpr ⟨hstr _ _ (hta _ kw_269), List.forall_mem_cons.mpr ⟨hstr _ _ (hta _ kw_359), List.forall_mem_cons.mpr ⟨hstr _ _ (hta _ kw_366), List.forall_mem_cons.mpr ⟨hstr _ _ (hta _ kw_367), List.forall_mem_cons.mpr ⟨hstr _ _ (hta _ kw_375), List.forall_mem_cons.mpr ⟨hstr _ _ (hta _ kw_427), List.forall_mem_cons.mpr ⟨hstr _ _ (hta _ kw_432), List.forall_mem_cons.mpr ⟨hstr _ _ (hta _ kw_442), List.forall_mem_cons.mpr ⟨hstr _ _ (hta _ kw_467), List.forall_mem_cons.mpr ⟨hstr _ _ (hta _ kw_491), List.forall_mem_cons.mpr ⟨hstr _ _ (hta _ kw_542), List.forall_mem_cons.mpr ⟨hstr _ _ (hta _ kw_560), List.forall_mem_cons.mpr ⟨hstr _ _ (hta _ kw_610), List.forall_mem_cons.mpr ⟨hstr _ _ (hta _ kw_611), List.forall_mem_cons.mpr ⟨hstr _ _ (hta _ kw_644), fun _ h => nomatch h⟩⟩⟩⟩⟩⟩⟩⟩⟩⟩⟩⟩⟩⟩⟩, List.forall_mem_cons.mpr ⟨va_Nc.of (hgv (.not (.castable "java/lang/IllegalStateException" "java/lang/IllegalArgumentException")) (by decide +kernel)), List.forall_mem_cons.mpr ⟨va_Nc.of (hgv (.not (.castable "java/lang/UnsupportedOperationException" "java/lang/IllegalArgumentException")) (by decide +kernel)), List.forall_mem_cons.mpr ⟨va_Nc.of (hgv (.not (.castable "java/lang/IndexOutOfBoundsException" "java/lang/IllegalArgumentException")) (by decide +kernel)), List.forall_mem_cons.mpr ⟨va_Nc.of (hgv (.not (.castable "java/lang/IllegalArgumentException" "java/lang/IllegalStateException")) (by decide +kernel)), List.forall_mem_cons.mpr ⟨va_Nc.of (hgv (.not (.castable "java/lang/UnsupportedOperationException" "java/lang/IllegalStateException")) (by decide +kernel)), List.forall_mem_cons.mpr ⟨va_Nc.of (hgv (.not (.castable "java/lang/IndexOutOfBoundsException" "java/lang/IllegalStateException")) (by decide +kernel)), List.forall_mem_cons.mpr ⟨va_Nc.of (hgv (.not (.castable "java/lang/IllegalArgumentException" "java/lang/UnsupportedOperationException")) (by decide +kernel)), List.forall_mem_cons.mpr ⟨va_Nc.of (hgv (.not (.castable "java/lang/IllegalStateException" "java/lang/UnsupportedOperationException")) (by decide +kernel)), List.forall_mem_cons.mpr ⟨va_Nc.of (hgv (.not (.castable "java/lang/IndexOutOfBoundsException" "java/lang/UnsupportedOperationException")) (by decide +kernel)), List.forall_mem_cons.mpr ⟨va_Nc.of (hgv (.not (.castable "java/lang/IllegalArgumentException" "java/lang/IndexOutOfBoundsException")) (by decide +kernel)), List.forall_mem_cons.mpr ⟨va_Nc.of (hgv (.not (.castable "java/lang/IllegalStateException" "java/lang/IndexOutOfBoundsException")) (by decide +kernel)), List.forall_mem_cons.mpr ⟨va_Nc.of (hgv (.not (.castable "java/lang/UnsupportedOperationException" "java/lang/IndexOutOfBoundsException")) (by decide +kernel)), fun _ h => nomatch h⟩⟩⟩⟩⟩⟩⟩⟩⟩⟩⟩⟩, List.forall_mem_cons.mpr ⟨va_AO.of (hta _ kw_58), List.forall_mem_cons.mpr ⟨va_AO.of (hta _ kw_143), fun _ h => nomatch h⟩⟩⟩
theorem am_gZ {s : State} {b : Nat} (hta : ∀ w ∈ tables_1, w.before #[Value.ref b] s = true) (hgv : ∀ c ∈ flatC (Jvm.Cond.and given_1 narrow_1), c.before #[Value.ref b] s = true) : am_Z (fun q => s.heap.size ≤ q) s s.heap := by
  exact ⟨vx_Zqof (hta _ kw_254) (hta _ kw_8) (hgv (.isRef (.static "java/lang/Throwable" "UNASSIGNED_STACK" "[Ljava/lang/StackTraceElement;")) (by decide +kernel)) (fun a h => Nat.not_le.mpr h), vx_Zqof (hta _ kw_256) (hta _ kw_8) (hgv (.isRef (.static "java/lang/Throwable" "SUPPRESSED_SENTINEL" "Ljava/util/List;")) (by decide +kernel)) (fun a h => Nat.not_le.mpr h)⟩
set_option maxRecDepth 20000 in
theorem whole_start_of {p : Program} {e : Env} {s : State} {m : MethodId} {below : List Frame} {meth : Method} {c : Code} (l : Launch) {b L : Nat} {xs : Nat → Int32} (hL : L ≤ 2560) (C0 : lw_At2 p l s m meth c b L xs) {Inv : am_MI → am_MJ → Prop} (h0 : w_M_forget am_I0 am_J0 (fun I J => Inv I (fun k => if k = 45 then (fun _ => 0) else J k)) (fun _ _ _ => False)) (hs : ∀ (x4 : Int32) (I : am_MI) (J : am_MJ), 0 ≤ x4.toInt → x4.toInt + 5 ≤ L → Inv I J → w_all L xs x4 I J Inv) : W p l e room_1 s m #[Value.ref b] below meth c s.heap [] 0 0 (lw_Z below #[Value.ref b] s) (entryFrame m ([Value.ref b] : List Value).toArray 8) := by
  obtain ⟨⟨hx, hb, hr, hml, hown, hts, hX, hbl, hlk, hg⟩, hlt, htb⟩ := C0
  have htw : ∀ w ∈ am_TW, w.before #[Value.ref b] s = true := fun w hw => hts w (List.mem_filter.mp hw).1
  have hta : ∀ w ∈ tables_1, w.before #[Value.ref b] s = true := fun w hw => hts w (List.mem_append_right _ hw)
  have hgv := flat_of_before _ hg
  obtain ⟨cB, iB, kB⟩ := u_known (C := "BubbleBox") (T := am_FB) (N := 8) (n := 8) htw am_hinB (htw _ (am_tw kw_16 rfl))
  obtain ⟨cC, iC, kC⟩ := u_known (C := "BubbleBox$Chip") (T := am_FC) (N := 5) (n := 5) htw am_hinC (htw _ (am_tw kw_24 rfl))
  obtain ⟨cD, iD, kD⟩ := u_known (C := "BubbleBox$Directory") (T := am_FD) (N := 4) (n := 4) htw am_hinD (htw _ (am_tw kw_52 rfl))
  obtain ⟨cE, iE, kE⟩ := u_known (C := "BubbleBox$Entry") (T := am_FE) (N := 6) (n := 6) htw am_hinE (htw _ (am_tw kw_59 rfl))
  obtain ⟨cI, iI, kI⟩ := u_known (C := "BubbleBox$Image") (T := am_FI) (N := 1) (n := 1) htw am_hinI (htw _ (am_tw kw_144 rfl))
  obtain ⟨cR, iR, kR⟩ := u_known (C := "BubbleBox$Requests") (T := am_FR) (N := 7) (n := 7) htw am_hinR (htw _ (am_tw kw_109 rfl))
  obtain ⟨cM, iM, kM⟩ := u_known (C := "BubbleBoxModel") (T := am_FM) (N := 27) (n := 27) htw am_hinM (htw _ (am_tw kw_646 rfl))
  obtain ⟨c0, k0, p0, f0, g0, h09⟩ := Cond.arrayClass_spec (hta _ kw_107)
  obtain ⟨c1, k1, p1, f1, g1, h19⟩ := Cond.arrayClass_spec (hta _ kw_49)
  obtain ⟨c2, k2, p2, f2, g2, h29⟩ := Cond.arrayClass_spec (hta _ kw_50)
  obtain ⟨p3, c3, k3, e3, -, g3, h39, f3⟩ := Cond.arrayOver_spec (hta _ kw_58)
  obtain ⟨p4, c4, k4, e4, -, g4, h49, f4⟩ := Cond.arrayOver_spec (hta _ kw_143)
  have hK : va_K ((fun q => [cB, cC, cD, cE, cI, cR, cM].getD q 0), (fun q => match q with | 0 => iB | 1 => iC | 2 => iD | 3 => iE | 4 => iI | 5 => iR | _ => iM)) am_cl (am_ty (fun q => [c0, c1, c2, c3, c4].getD q 0)) s := by
    refine ⟨fun c9 q hq => ?_, fun c9 q hq => ?_⟩
    · match c9, hq with
      | 0, hq => cases hq; exact kB
      | 1, hq => cases hq; exact kC
      | 2, hq => cases hq; exact kD
      | 3, hq => cases hq; exact kE
      | 4, hq => cases hq; exact kI
      | 5, hq => cases hq; exact kR
      | 6, hq => cases hq; exact kM
      | q9 + 7, hq => cases hq
    · match c9, hq with
      | 0, hq => cases hq; exact ⟨am_wRA g0 h09, f0⟩
      | 1, hq => cases hq; exact ⟨am_wRA g1 h19, f1⟩
      | 2, hq => cases hq; exact ⟨am_wRA g2 h29, f2⟩
      | 3, hq => cases hq; exact ⟨am_wRA g3 h39, k3, p3, g3, h39, e3, f3⟩
      | 4, hq => cases hq; exact ⟨am_wRA g4 h49, k4, p4, g4, h49, e4, f4⟩
      | q9 + 5, hq => cases hq
  have hN : am_N s := am_gN hta hts hgv kB.2.1
  have hZ : am_Z (fun q => s.heap.size ≤ q) s s.heap := am_gZ hta hgv
  have hl := lv_entry [Value.ref b] (n := 8) (Nat.le_of_ble_eq_true rfl)
  have hw := am_start (L0 := L) (xs := xs) hlt h0 (fun ad I J hI => am_loop hlt hL hs 520 0 I _ (by omega) (by omega) hI) p e s m #[Value.ref b] below meth c (fun q => s.heap.size ≤ q) s.heap [] _ ⟨hx, hb, hml, hown, htw, hr, hlk, (fun h => nomatch h), htb, hK, hN, hZ, fun q h => h, hlt, hX, hbl, Nat.not_le.mpr hbl⟩ hl (fun k q h => by simp at h) ⟨fun i j p q h => by simp at h, fun k q h => by simp at h⟩ va_S.rf
  rw [← lg_entry_eq] at hw
  intro T hT Y
  obtain ⟨t, a1, o, b1, b2, b3⟩ := hw T hT Y
  refine ⟨t, a1, o, b1, b2, ?_⟩
  rcases b3 with ⟨⟨⟨v, w9, rfl, rfl, -⟩, -⟩, Ls, ⟨hF1, hF2, hF3⟩, hLs⟩ | ⟨q, -, E, ce, Ls, ⟨⟨w9, hf, -⟩, -⟩, -⟩
  · exact ⟨rfl, hF1, hF2, hF3.weaken (fun y hy hlt9 => absurd (hLs y hy) (Nat.not_le.mpr hlt9)) (Nat.le_refl _) (Nat.le_refl _)⟩
  · exact hf.elim
end AMGL
