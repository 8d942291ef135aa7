section AMD
theorem am_nk_warm {w : Cond} (hk : am_nk w = true) {s U : State} (hW : s.WarmedH U.vm) (h : va_Nw w s) : va_Nw w U := by
  cases w <;> first | exact va_Nw.warmF hW h | exact va_Nw.warmM hW h | exact va_Nw.warmC hW h | exact va_Nw.warmD hW h | (exact absurd hk (by simp [am_nk]))
theorem am_TN_k : ∀ w ∈ am_TN, am_nk w = true := fun _ h => (List.mem_filter.mp h).2
theorem am_TW_g : ∀ w ∈ am_TW, goodWord w = true := fun _ h => (List.mem_filter.mp h).2
/-- what is known beside the good words: nest mates' links, casts, texts, what is no cast -/
def am_N (U : State) : Prop := (∀ w ∈ am_TN, va_Nw w U) ∧ (∀ x ∈ am_TS, ∃ sa, vk_R x.1 x.2.1 x.2.2 sa U) ∧ (∀ x ∈ am_TC, va_Nc x.1 x.2 U) ∧ ∀ C ∈ am_TA, va_AO C U
theorem am_N.warm {s U : State} (h : am_N s) (hW : s.WarmedH U.vm) : am_N U :=
  ⟨fun w hw => am_nk_warm (am_TN_k w hw) hW (h.1 w hw), fun x hx => (h.2.1 x hx).elim fun sa h1 => ⟨sa, vk_R.warm hW h1⟩, fun x hx => va_Nc.moved hW.alike (h.2.2.1 x hx), fun C hC => va_AO.moved hW.alike (h.2.2.2 C hC)⟩
/-- the two statics of Throwable that a throw reads -/
def am_Z (A : Nat → Prop) (U : State) (H : Heap) : Prop := vx_Zq Bundle.tN "UNASSIGNED_STACK" Bundle.steD A U H ∧ vx_Zq Bundle.tN "SUPPRESSED_SENTINEL" Bundle.listD A U H
theorem am_Z.moved {A : Nat → Prop} {u U : State} {H : Heap} (h : am_Z A u H) (hvm : u.vm.Alike U.vm) : am_Z A U H := ⟨vx_Zq.moved hvm h.1, vx_Zq.moved hvm h.2⟩
theorem am_Z.kept {A : Nat → Prop} {U : State} {H H1 : Heap} (h : am_Z A U H) (hq : ∀ a : Nat, a < H.size → ¬ A a → H1[a]? = H[a]?) : am_Z A U H1 := ⟨vx_Zq.kept h.1 hq, vx_Zq.kept h.2 hq⟩
theorem am_Z.narrow {A B : Nat → Prop} {U : State} {H : Heap} (h : am_Z A U H) (hAB : ∀ q, B q → A q) : am_Z B U H := ⟨vx_Zq.narrow h.1 hAB, vx_Zq.narrow h.2 hAB⟩
def am_ty (aC : Nat → ClassId) : List (ClassId × FieldType) := [(aC 0, .int), (aC 1, .long), (aC 2, .boolean), (aC 3, .object "BubbleBox$Entry"), (aC 4, .object "BubbleBox$Image")]
/-- what a body knows of its frame -/
def am_G0 : State → (Nat → Prop) → Prop := fun _ _ => True
def am_S (l : Launch) (D : va_G) (aC : Nat → ClassId) (own : String) (cc : ByteArray) (nL : Nat) (ret : Option FieldType) (ini : Bool) (tb : List (Nat × Nat × Nat × Nat)) (G : State → (Nat → Prop) → Prop) (p : Program) (s : State) (m : MethodId) (args : Array Value) (meth : Method) (c : Code) (A : Nat → Prop) : Prop :=
  p.tables.exec = Jvm.exec ∧ c.code = cc ∧ c.maxLocals = nL ∧ s.vm.findClass own = some m.cls ∧ (∀ w ∈ am_TW, w.before args s = true) ∧ meth.sig.returnType = ret ∧ meth.locks = false ∧ (ini = true → meth.name = "<init>") ∧ c.exceptionTable.toList = tableOf tb ∧ va_K D am_cl (am_ty aC) s ∧ am_N s ∧ am_Z A s s.heap ∧ (∀ q, s.heap.size ≤ q → A q) ∧ l.stackTraces = false ∧ G s A
def am_Q (D : va_G) (A : Nat → Prop) (Q : Option Value → va_W → Prop) : Array Value → State → Outcome → State → Prop := fun _ st oc t => (∃ (v : Option Value) (ws : va_W), oc = .returned v ∧ Q v ws ∧ va_P D am_cl ws t.heap ∧ va_D A ws) ∧ va_F A st t
def am_X (D : va_G) (A : Nat → Prop) (X : String → va_W → Prop) : String → State → State → Prop := fun E st t => (∃ ws : va_W, X E ws ∧ va_P D am_cl ws t.heap ∧ va_D A ws) ∧ va_F A st t
/-- a method that returns, or throws a new cell of six slots -/
def am_QQ (Qc : Array Value → State → Outcome → State → Prop) (XC : String → State → State → Prop) (mc ms : Nat) (free : Addr → Prop) : Array Value → State → Outcome → State → Prop := fun a st o t =>
  (Qc a st o t ∧ ∃ L, FrameEnd st o t L mc ms ∧ ∀ q ∈ L, free q.base) ∨ ∃ q, o = .threw q ∧ vx_T XC st q t (mc + 1) (ms + 6) free
def am_MQ (below : List Frame) (Qc : Array Value → State → Outcome → State → Prop) (XC : String → State → State → Prop) (a : Array Value) (s : State) (mc ms : Nat) (free : Addr → Prop) : State → Prop := fun t =>
  ∃ o, t.status = .running ∧ Ended t below o ∧ am_QQ Qc XC mc ms free a s o t
/-- from this place of the body it comes to its end with Q, or throws with X -/
def am (l : Launch) (D : va_G) (aC : Nat → ClassId) (own : String) (cc : ByteArray) (nL : Nat) (ret : Option FieldType) (ini : Bool) (tb : List (Nat × Nat × Nat × Nat)) (G : State → (Nat → Prop) → Prop) (rm : Room) (mc ms k n pc : Nat) (L : List (Nat × Value)) (st : List Value) (ws : va_W) (Q : Option Value → va_W → Prop) (X : String → va_W → Prop) : Prop :=
  ∀ (p : Program) (e : Env) (s : State) (m : MethodId) (args : Array Value) (below : List Frame) (meth : Method) (c : Code) (A : Nat → Prop) (H : Heap) (locs : List Loc) (ls : Array Slot),
    am_S l D aC own cc nL ret ini tb G p s m args meth c A → lv_has ls nL L → va_P D am_cl ws H → va_D A ws → va_S A s.heap H locs →
    W p l e rm s m args below meth c H locs k n (am_MQ below (am_Q D A Q) (am_X D A X) args s mc ms A) (F0 m pc ls st)
/-- the same where a cell q of class E has been thrown over the frame -/
def am_t (l : Launch) (D : va_G) (aC : Nat → ClassId) (own : String) (cc : ByteArray) (nL : Nat) (ret : Option FieldType) (ini : Bool) (tb : List (Nat × Nat × Nat × Nat)) (G : State → (Nat → Prop) → Prop) (rm : Room) (mc ms k n pc : Nat) (L : List (Nat × Value)) (E : String) (ws : va_W) (Q : Option Value → va_W → Prop) (X : String → va_W → Prop) : Prop :=
  ∀ (p : Program) (e : Env) (s : State) (m : MethodId) (args : Array Value) (below : List Frame) (meth : Method) (c : Code) (A : Nat → Prop) (H : Heap) (locs : List Loc) (ls : Array Slot) (st : List Value) (q : Nat) (ce : Cell),
    am_S l D aC own cc nL ret ini tb G p s m args meth c A → lv_has ls nL L → va_P D am_cl ws H → va_D A ws → va_S A s.heap H locs → H[q]? = some ce → ce.vm = .none → s.vm.findClass E = some ce.cls →
    vx_W p l e rm s m args below meth c H locs k n (am_MQ below (am_Q D A Q) (am_X D A X) args s mc ms A) (F0 m pc ls st) q
def am_P (D : va_G) (aC : Nat → ClassId) (ws : va_W) (sz : Nat) (U : State) : Prop := U.heap.size = sz ∧ va_P D am_cl ws U.heap ∧ va_K D am_cl (am_ty aC) U ∧ va_D (fun _ => True) ws ∧ am_N U ∧ am_Z (va_A ws sz) U U.heap
theorem am_blind {D : va_G} {aC : Nat → ClassId} {ws : va_W} {sz : Nat} {av : List Value} : FrameBlind (va_Pc av (am_P D aC ws sz)) := by
  intro a U g mk q
  obtain ⟨q0, q1, qP, qK, qD, qN, qZ⟩ := q
  exact ⟨q0, q1, qP, va_K.moved (u := U) (U := U.calling g mk a) (Vm.Alike.refl U.vm) qK, qD, am_N.warm (s := U) (U := U.calling g mk a) qN (State.WarmedH.refl U), am_Z.moved (u := U) (U := U.calling g mk a) qZ (Vm.Alike.refl U.vm)⟩
/-- a method's contract: from arguments args in a world ws -/
def am_c (l : Launch) (D : va_G) (aC : Nat → ClassId) (y : MethodName) (cw : Cond) (rm : Room) (mc ms : Nat) (av : List Value) (ws : va_W) (Q : Option Value → va_W → Prop) (X : String → va_W → Prop) : Prop :=
  ∀ sz, MetFree l y (headSpec (cw :: am_TW) rm) (va_Pc av (am_P D aC ws sz)) (fun _ _ _ _ _ => True) (am_QQ (am_Q D (va_A ws sz) Q) (am_X D (va_A ws sz) X) mc ms (va_A ws sz))
end AMD
section AMO
variable {l : Launch} {D : va_G} {aC : Nat → ClassId} {cc : ByteArray} {nL : Nat} {ret : Option FieldType} {rm : Room} {mc ms : Nat} {ws : va_W} {Q : Option Value → va_W → Prop} {X : String → va_W → Prop}
/-- a contract out of its body -/
theorem am_of {y : MethodName} {av : List Value} {ini : Bool} (hlt : l.stackTraces = false) (hy : plainName y.cls = true) (hav : (lg_sl av).length ≤ nL) (hini : ini = true → y.name = "<init>")
    (body : am l D aC y.cls cc nL ret ini [] am_G0 rm mc ms 0 0 0 (lv_args 0 av) [] ws Q X) : am_c l D aC y (.code y cc nL ret) rm mc ms av ws Q X := by
  intro sz
  refine MetFree.of_bodyS (code := cc) (maxLocals := nL) (ret := ret) hy ?_ ?_
  · intro args s m h hn
    obtain ⟨meth, c, h1, h2, h3, h4, h5, h6, -, -⟩ := Cond.code_spec hn (atoms_spec (ws := .code y cc nL ret :: am_TW) h _ List.mem_cons_self)
    exact ⟨meth, c, h1, h2, h3, h4, h5, h6⟩
  · intro p e s m args below meth c s₁ B hml hv _
    obtain ⟨rfl, hsz, hP, hK, hD0, hN, hZ⟩ := hv
    have hh0 : s₁.heap = s.heap := by rw [B.state]; rfl
    have hts := atoms_spec (ws := .code y cc nL ret :: am_TW) B.pre
    have htb : c.exceptionTable.toList = tableOf [] := by
      obtain ⟨meth9, c9, h1, h2, -, -, -, -, h7, -⟩ := Cond.code_spec B.named (hts _ List.mem_cons_self)
      cases Option.some.inj (h1.symm.trans B.method)
      cases Option.some.inj (h2.symm.trans (Stand.of_body B).code)
      rw [Array.isEmpty_iff.mp h7]
      rfl
    subst hsz
    have hD := hD0.self (sz := s.heap.size)
    have hl := lv_entry av (n := nL) hav
    have hw := body p e s m av.toArray below meth c (va_A ws s.heap.size) s.heap [] _ ⟨B.exec, B.bytes, hml, findClass_of_methodNamed B.named, fun w hw => hts w (List.mem_cons_of_mem _ hw), B.returns, B.notSynchronized, fun h => ((name_of_methodNamed B.named B.method).1).trans (hini h), htb, hK, hN, hZ, fun q h => Or.inr h, hlt, trivial⟩ hl hP hD va_S.rf
    rw [← lg_entry_eq] at hw
    obtain ⟨t, a1, o, b1, b2, b3⟩ := hw s₁ hh0 (Stand.of_body B)
    exact ⟨t, o, a1, b1, b2, b3⟩
/-- a contract out of its body, with handlers -/
theorem am_ofH {y : MethodName} {av : List Value} {hh : List (Nat × Nat × Nat × Nat)} (hlt : l.stackTraces = false) (hy : plainName y.cls = true) (hav : (lg_sl av).length ≤ nL)
    (body : am l D aC y.cls cc nL ret false hh am_G0 rm mc ms 0 0 0 (lv_args 0 av) [] ws Q X) : am_c l D aC y (.codeWith y cc nL ret hh) rm mc ms av ws Q X := by
  intro sz
  refine MetFree.of_bodyS (code := cc) (maxLocals := nL) (ret := ret) hy ?_ ?_
  · intro args s m h hn
    obtain ⟨m9, meth, c, hn9, h1, h2, h3, h4, -, h5, h6, -⟩ := Cond.codeWith_spec (atoms_spec (ws := .codeWith y cc nL ret hh :: am_TW) h _ List.mem_cons_self)
    cases hn.symm.trans hn9
    exact ⟨meth, c, h1, h2, h3, h4, h5, h6⟩
  · intro p e s m args below meth c s₁ B hml hv _
    obtain ⟨rfl, hsz, hP, hK, hD0, hN, hZ⟩ := hv
    have hh0 : s₁.heap = s.heap := by rw [B.state]; rfl
    have hts := atoms_spec (ws := .codeWith y cc nL ret hh :: am_TW) B.pre
    have htb : c.exceptionTable.toList = tableOf hh := vx_table (x := y) B (hts _ List.mem_cons_self)
    subst hsz
    have hD := hD0.self (sz := s.heap.size)
    have hl := lv_entry av (n := nL) hav
    have hw := body p e s m av.toArray below meth c (va_A ws s.heap.size) s.heap [] _ ⟨B.exec, B.bytes, hml, findClass_of_methodNamed B.named, fun w hw => hts w (List.mem_cons_of_mem _ hw), B.returns, B.notSynchronized, fun h => (by cases h), htb, hK, hN, hZ, fun q h => Or.inr h, hlt, trivial⟩ hl hP hD va_S.rf
    rw [← lg_entry_eq] at hw
    obtain ⟨t, a1, o, b1, b2, b3⟩ := hw s₁ hh0 (Stand.of_body B)
    exact ⟨t, o, a1, b1, b2, b3⟩
end AMO
section AMB
variable {l : Launch} {R : Room} {p : Program} {e : Env} {below : List Frame} {s : State} {sargs : Array Value} {y : MethodName} {len W9 : Nat}
/-- (follows vx_back; a return and a throw have counts of their own) -/
theorem am_back {ws : List Cond} {rm : Room} {Pc : Array Value → State → Prop} {Qc : Array Value → State → Outcome → State → Prop} {XC : String → State → State → Prop} {mc ms : Nat} {free : Addr → Prop} {maxL : Nat}
    (hM : MetFree l y (headSpec ws rm) Pc (fun _ _ _ _ _ => True) (am_QQ Qc XC mc ms free)) (hblind : FrameBlind Pc) (hrc : rm.cells = mc + 1) (hrs : rm.slots = ms + 6)
    (hframes : rm.frames + 1 ≤ R.frames) (hlocals : W9 + (maxL + 11) + rm.locals ≤ R.locals)
    (hws : ∀ w ∈ ws, ∀ (a' : Array Value) (U : State), s.WarmedH U.vm → w.before a' U = true)
    (hcd : ∀ (U : State) (mk : MethodId), s.WarmedH U.vm → U.methodNamed? y = some mk → ∃ (methY : Method) (cY : Code), U.vm.method? mk = some methY ∧ methY.code = some cY ∧ cY.maxLocals = maxL)
    (hinit : ∀ (a' : Array Value) (U : State), s.WarmedH U.vm → (Cond.initialized y.cls).before a' U = true) :
    vx_Back l R p e below s sargs y len W9 (PreOf R (mc + 1) (ms + 6) Pc) (PostOf Qc mc ms free) (vx_Post XC (mc + 1) (ms + 6) free) := by
  intro m meth c A g ig mk a X hg hsize hdg hW hn hp
  have h1 : (headSpec ws rm).pre.before a A.U = true := atoms_intro fun w hw => hws w hw _ _ X.warmed
  have h3 : (Cond.initialized y.cls).before a A.U = true := hinit _ _ X.warmed
  have h4 : A.cells + (headSpec ws rm).room.cells ≤ R.cells := by rw [show (headSpec ws rm).room.cells = mc + 1 from hrc]; exact hp.1
  have h5 : A.slots + (headSpec ws rm).room.slots ≤ R.slots := by rw [show (headSpec ws rm).room.slots = ms + 6 from hrs]; exact hp.2.1
  have hPc : Pc a (A.U.calling g mk a) := hblind _ _ _ _ hp.2.2
  have hcd9 := hcd A.U mk X.warmed hn
  obtain ⟨U, Ls, c0, s0⟩ := A
  dsimp only [Pt.U, Pt.locs, Pt.cells, Pt.slots] at h1 h3 h4 h5 X hn hPc hcd9 ⊢
  obtain ⟨methY, cY, hmY, hcY, hlY⟩ := hcd9
  obtain ⟨kY, hkY, -⟩ := className_of_methodNamed hn
  have hinitY : kY.init = .initialized := Cond.initialized_spec (findClass_of_methodNamed hn) hkY h3
  have h : At U g.method c below := by rw [hg]; exact X.here
  have hlocals9 : W9 + (maxL + 11) + (headSpec ws rm).room.locals ≤ R.locals := hlocals
  have happ : (headSpec ws rm).appliesLoose y e.platform (U.calling g mk a) = true :=
    Spec.appliesLoose_calling (g := g) h hdg hn hkY hinitY
      (X.room_calling (g := g) (R' := (headSpec ws rm).room) hsize hmY hcY hframes (by rw [hlY]; omega) h4 h5) h1
  obtain ⟨mid, hmid⟩ := h.above
  have hfr : (U.setTop g).frames = (.java g :: mid) ++ below := by rw [State.frames_setTop' g h.top, hmid]; rfl
  obtain ⟨o, s₂, hsteps, -, hend, hq⟩ := Steps.callFree hM p X.admits X.cas X.clock (acts := []) hfr happ hPc trivial
  have hq' : am_QQ Qc XC mc ms free a (U.calling g mk a) o s₂ := hq
  rw [State.frames_setTop' g h.top] at hend
  obtain ⟨g₀, hg0⟩ := Option.isSome_iff_exists.mp h.top
  obtain ⟨r, hr⟩ := State.topJava?_eq_some.mp hg0
  have hr' : (({ U with heap := s₂.heap, slotsUsed := s₂.slotsUsed } : State).setVm s₂.vm).frames = .java g₀ :: r := hr
  rcases hq' with ⟨hqc, L, hfe, hL⟩ | ⟨q, rfl, E, ce, L, hx, hce, hcv, hcl, hW₂, hsm, hL⟩
  · obtain ⟨⟨v, rfl⟩, hW₂, e2, q2, q3, q4, q5, q6⟩ := id hfe
    have e3 : s₂ = ({ (U.calling g mk a).setFrames s₂.frames with heap := s₂.heap, slotsUsed := s₂.slotsUsed } : State).setVm s₂.vm := by
      have : s₂ = ({ s₂ with vm := (U.calling g mk a).vm } : State).setVm s₂.vm := rfl
      rw [e2] at this
      exact this
    obtain ⟨c₂, i₂, len₂, hc₂, hd₂, hf₂⟩ := hend
    have hW' : U.WarmedH s₂.vm := hW₂
    have hcc : c₂ = c := by
      have h1 : s₂.code? g.method = U.code? g.method := by
        rw [State.code?_eq, State.code?_eq, hW'.alike.method?]
      exact Option.some.inj (hc₂.symm.trans (h1.trans h.code))
    subst hcc
    have hlen : len₂ = len := by rw [hdg] at hd₂; cases hd₂; rfl
    subst hlen
    have hs₂ : s₂ = (({ U with heap := s₂.heap, slotsUsed := s₂.slotsUsed } : State).setVm s₂.vm).setTop { g with pc := g.pc + len₂, stack := v.toList ++ g.stack } := by
      refine e3.trans ?_
      rw [hf₂, State.calling_eq h.top, State.setFrames_setFrames, State.setTop_of_frames _ hr', hr]
      rfl
    have hsame : U.sameButNew ({ U with heap := s₂.heap, slotsUsed := s₂.slotsUsed } : State) L mc ms := by
      refine ⟨?_, q2, q3, q4, q5, q6⟩
      obtain ⟨t, ht, -⟩ := State.frames_cons hr
      show ({ U with heap := s₂.heap, slotsUsed := s₂.slotsUsed } : State) = { U.setFrames U.frames with heap := s₂.heap, slotsUsed := s₂.slotsUsed }
      rw [State.setFrames_self ht]
    subst hg
    refine Or.inl ⟨v, ⟨(({ U with heap := s₂.heap, slotsUsed := s₂.slotsUsed } : State).setVm s₂.vm), Ls ++ L, c0 + mc, s0 + ms⟩,
      ⟨X.admits, X.cas, X.clock, X.frames, X.room, X.hears, X.method, X.code, (X.here.setHeapUsed s₂.heap s₂.slotsUsed).setVm hW'.alike, X.tail, State.WarmedH.trans X.warmed hW', X.limits, X.bytes, X.same.trans (hsame.setVm s.vm)⟩,
      ⟨g, mk, s₂, L, rfl, rfl, hqc, rfl, hL, rfl, rfl⟩, ?_⟩
    show Steps p.tables e below _ ((({ U with heap := s₂.heap, slotsUsed := s₂.slotsUsed } : State).setVm s₂.vm).setTop { g with pc := g.pc + len₂, stack := v.toList ++ g.stack })
    rw [← hs₂]
    exact hsteps
  · obtain ⟨e2, q2, q3, q4, q5, q6⟩ := id hsm
    have e3 : s₂ = ({ (U.calling g mk a).setFrames s₂.frames with heap := s₂.heap, slotsUsed := s₂.slotsUsed } : State).setVm s₂.vm := by
      have : s₂ = ({ s₂ with vm := (U.calling g mk a).vm } : State).setVm s₂.vm := rfl
      rw [e2] at this
      exact this
    have hf₂ : s₂.frames = .throwing q :: .java g :: U.frames.tail := hend
    have hW' : U.WarmedH s₂.vm := hW₂
    have hs₂ : s₂ = ((({ U with heap := s₂.heap, slotsUsed := s₂.slotsUsed } : State).setVm s₂.vm).setTop g).pushFrame (.throwing q) := by
      refine e3.trans ?_
      rw [hf₂, State.calling_eq h.top, State.setFrames_setFrames, State.pushFrame, State.frames_setTop _ hr', State.setTop_of_frames _ hr', State.setFrames_setFrames, hr]
      rfl
    have hsame : U.sameButNew ({ U with heap := s₂.heap, slotsUsed := s₂.slotsUsed } : State) L (mc + 1) (ms + 6) := by
      refine ⟨?_, q2, q3, q4, q5, q6⟩
      obtain ⟨t, ht, -⟩ := State.frames_cons hr
      show ({ U with heap := s₂.heap, slotsUsed := s₂.slotsUsed } : State) = { U.setFrames U.frames with heap := s₂.heap, slotsUsed := s₂.slotsUsed }
      rw [State.setFrames_self ht]
    subst hg
    refine Or.inr ⟨q, ⟨(({ U with heap := s₂.heap, slotsUsed := s₂.slotsUsed } : State).setVm s₂.vm), Ls ++ L, c0 + (mc + 1), s0 + (ms + 6)⟩,
      ⟨X.admits, X.cas, X.clock, X.frames, X.room, X.hears, X.method, X.code, (X.here.setHeapUsed s₂.heap s₂.slotsUsed).setVm hW'.alike, X.tail, State.WarmedH.trans X.warmed hW', X.limits, X.bytes, X.same.trans (hsame.setVm s.vm)⟩,
      ⟨g, mk, s₂, L, E, ce, rfl, rfl, hx, hce, hcv, hcl, rfl, hL, rfl, rfl⟩, ?_⟩
    show Steps p.tables e below _ (((({ U with heap := s₂.heap, slotsUsed := s₂.slotsUsed } : State).setVm s₂.vm).setTop g).pushFrame (.throwing q))
    rw [← hs₂]
    exact hsteps
theorem am_noX {Pre : Pt → Array Value → Prop} {Post : Pt → Array Value → Option Value → Pt → Prop} {PostX : Pt → Array Value → Addr → Pt → Prop} (hB : vx_Back l R p e below s sargs y len W9 Pre Post PostX) (hno : ∀ A a q B, ¬ PostX A a q B) : Back l R p e below s sargs y len W9 Pre Post :=
  fun m meth c A g ig mk a X hg hs hd hW hn hp => (hB m meth c A g ig mk a X hg hs hd hW hn hp).elim id (fun h => h.elim fun q h => h.elim fun B h => (hno _ _ _ _ h.2.1).elim)
end AMB
section AMC
variable {l : Launch} {D : va_G} {aC : Nat → ClassId} {own : String} {cc : ByteArray} {nL : Nat} {ret : Option FieldType} {ini : Bool} {tb : List (Nat × Nat × Nat × Nat)} {G : State → (Nat → Prop) → Prop} {rm : Room} {mc ms k n pc : Nat} {L : List (Nat × Value)} {st rest : List Value} {ws : va_W} {Q : Option Value → va_W → Prop} {X : String → va_W → Prop}
variable {p : Program} {e : Env} {s : State} {m : MethodId} {args : Array Value} {below : List Frame} {meth : Method} {c : Code} {A : Nat → Prop} {H : Heap} {locs : List Loc}
theorem am_A {A : Nat → Prop} (hA : ∀ q, s.heap.size ≤ q → A q) (hD : va_D A ws) (hS : va_S A s.heap H locs) : ∀ q, va_A ws H.size q → A q := fun q h => h.elim (fun h => h.elim fun k h => h.elim fun e he => hD.2 k _ he) (fun h => hA q (Nat.le_trans hS.1 h))
/-- the premise of a callee -/
theorem am_pre {av : List Value} (hA : ∀ q, s.heap.size ≤ q → A q) (hK : va_K D am_cl (am_ty aC) s) (hN : am_N s) (hZ : am_Z A s s.heap) (hP : va_P D am_cl ws H) (hD : va_D A ws) (hS : va_S A s.heap H locs) {U : State} (hU : U.heap = H) (hW : s.WarmedH U.vm) : va_Pc av (am_P D aC ws H.size) av.toArray U :=
  ⟨rfl, by rw [hU], by rw [hU]; exact hP, va_K.moved hW.alike hK, hD.weaken (fun _ _ _ _ => trivial), hN.warm hW, by rw [hU]; exact ((hZ.kept hS.2.1).narrow (am_A hA hD hS)).moved hW.alike⟩
/-- behind a call that returned -/
theorem am_after {Q' : Option Value → va_W → Prop} {st₀ t T' : State} {L9 : List Loc} {v : Option Value} (hA : ∀ q, s.heap.size ≤ q → A q) (hD : va_D A ws) (hS : va_S A s.heap H locs) (h0 : st₀.heap = H) (e1 : T'.heap = t.heap) (hL : ∀ q ∈ L9, va_A ws H.size q.base) (hq : am_Q D (va_A ws H.size) Q' #[] st₀ (.returned v) t) :
    ∃ ws' : va_W, Q' v ws' ∧ va_P D am_cl ws' T'.heap ∧ va_D A ws' ∧ va_S A s.heap T'.heap (locs ++ L9) := by
  obtain ⟨⟨v', ws', hv, hQ, hP', hD'⟩, hF⟩ := hq
  cases hv
  exact ⟨ws', hQ, by rw [e1]; exact hP', hD'.weaken (fun _ _ _ h => am_A hA hD hS _ h), (vx_keep h0 e1 hS (fun q _ h => am_A hA hD hS q h) (fun q h => am_A hA hD hS q h) hL hF).2.2⟩
theorem am_afterX {X' : String → va_W → Prop} {st₀ t T' : State} {L9 : List Loc} {E : String} (hA : ∀ q, s.heap.size ≤ q → A q) (hD : va_D A ws) (hS : va_S A s.heap H locs) (h0 : st₀.heap = H) (e1 : T'.heap = t.heap) (hL : ∀ q ∈ L9, va_A ws H.size q.base) (hq : am_X D (va_A ws H.size) X' E st₀ t) :
    ∃ ws' : va_W, X' E ws' ∧ va_P D am_cl ws' T'.heap ∧ va_D A ws' ∧ va_S A s.heap T'.heap (locs ++ L9) := by
  obtain ⟨⟨ws', hX, hP', hD'⟩, hF⟩ := hq
  exact ⟨ws', hX, by rw [e1]; exact hP', hD'.weaken (fun _ _ _ h => am_A hA hD hS _ h), (vx_keep h0 e1 hS (fun q _ h => am_A hA hD hS q h) (fun q h => am_A hA hD hS q h) hL hF).2.2⟩
theorem am_good {cw : Cond} (hts : ∀ w ∈ am_TW, w.before args s = true) (hc : cw ∈ am_TW) : ∀ w ∈ cw :: am_TW, ∀ (a' : Array Value) (U : State), s.WarmedH U.vm → w.before a' U = true := by
  intro w hw a' U hW
  have hm : w ∈ am_TW := (List.mem_cons.mp hw).elim (fun h => h ▸ hc) id
  exact word_at hW (good_of_word (am_TW_g w hm)) (hts w hm)
theorem am_cd {y : MethodName} {bytes : ByteArray} {maxL : Nat} {rt : Option FieldType} (hts : ∀ w ∈ am_TW, w.before args s = true) (hc : Cond.code y bytes maxL rt ∈ am_TW) : ∀ (U : State) (mk : MethodId), s.WarmedH U.vm → U.methodNamed? y = some mk → ∃ (methY : Method) (cY : Code), U.vm.method? mk = some methY ∧ methY.code = some cY ∧ cY.maxLocals = maxL := by
  intro U mk hW hn
  obtain ⟨methY, cY, hmY, hcY, -, hlY, -, -, -, -⟩ := Cond.code_spec hn (am_good hts hc _ List.mem_cons_self args U hW)
  exact ⟨methY, cY, hmY, hcY, hlY⟩
theorem am_cdH {y : MethodName} {bytes : ByteArray} {maxL : Nat} {rt : Option FieldType} {hh : List (Nat × Nat × Nat × Nat)} (hts : ∀ w ∈ am_TW, w.before args s = true) (hc : Cond.codeWith y bytes maxL rt hh ∈ am_TW) : ∀ (U : State) (mk : MethodId), s.WarmedH U.vm → U.methodNamed? y = some mk → ∃ (methY : Method) (cY : Code), U.vm.method? mk = some methY ∧ methY.code = some cY ∧ cY.maxLocals = maxL := by
  intro U mk hW hn
  obtain ⟨m9, meth, c, hn9, h1, h2, h3, h4, -, h5, h6, -⟩ := Cond.codeWith_spec (am_good hts hc _ List.mem_cons_self args U hW)
  cases hn.symm.trans hn9
  exact ⟨meth, c, h1, h2, h4⟩
theorem am_pl {y : MethodName} {N9 : Nat} {As : List Value} (hp : (parseMethodDescriptor y.desc).map (fun d => d.parameters.length) = some N9) (hn : As.length = N9) : ∀ sig, parseMethodDescriptor y.desc = some sig → As.length = sig.parameters.length := by
  intro sig h
  rw [h] at hp
  exact hn.trans (Option.some.inj hp).symm
/-- not caught here -/
theorem am_out {E : String} (hout : ∀ x ∈ tableOf tb, covers x pc = false) (hc : k ≤ mc + 1) (hs : n ≤ ms + 6) (hx : X E ws) : am_t l D aC own cc nL ret ini tb G rm mc ms k n pc L E ws Q X := by
  intro p e s m args below meth c A H locs ls st q ce S hl hP hD hS hcell hv hcl T hT X9
  obtain ⟨hx9, hb, hml, hown, hts, hret, hlk, hin, htb, hK, hN, hZ, hA, hlt, hG⟩ := S
  obtain ⟨t, a1, o, b1, b2, b3⟩ := vx_out (Qc := fun _ _ _ _ => False) (XC := am_X D A X) (free := A) (rest := st) (ls := ls) (mc := mc + 1) (ms := ms + 6) (by rw [htb]; exact hout) hlk hcell hv hcl (fun t ht _ => ⟨⟨ws, hx, by rw [ht]; exact hP, hD⟩, hS.F ht⟩) hS.2.2 hc hs T hT X9
  refine ⟨t, a1, o, b1, b2, ?_⟩
  rcases b3 with ⟨h, -⟩ | h
  · exact h.elim
  · exact Or.inr h
/-- caught by the row x of the table -/
theorem am_catch {E name : String} (pre : List (Nat × Nat × Nat × Nat)) (x : Nat × Nat × Nat × Nat) (suf : List (Nat × Nat × Nat × Nat)) (hsplit : tb = pre ++ x :: suf)
    (hpass : ∀ z ∈ pre, (decide (z.2.2.2 ≠ 0) && decide (z.1 ≤ pc) && decide (pc < z.2.1)) = true ∧ ∃ nm : String, Cond.classLink own z.2.2.2 nm ∈ am_TW ∧ (E, nm) ∈ am_TC) (hx : covers ⟨x.1, x.2.1, x.2.2.1, x.2.2.2⟩ pc = true) (h0 : x.2.2.2 ≠ 0)
    (hlink : Cond.classLink own x.2.2.2 name ∈ am_TW) (hcast : Cond.castable E name ∈ am_TN)
    (kk : ∀ q, am l D aC own cc nL ret ini tb G rm mc ms k n x.2.2.1 L [.ref q] ws Q X) : am_t l D aC own cc nL ret ini tb G rm mc ms k n pc L E ws Q X := by
  intro p e s m args below meth c A H locs ls st q ce S hl hP hD hS hcell hv hcl
  have S9 := S
  obtain ⟨hx9, hb, hml, hown, hts, hret, hlk, hin, htb, hK, hN, hZ, hA, hlt, hG⟩ := S
  refine vx_catch (name := name) (E := E) (ce := ce) hown (tableOf pre) ⟨x.1, x.2.1, x.2.2.1, x.2.2.2⟩ (tableOf suf) ?_ ?_ hx h0 (hts _ hlink) (va_Nw.use rfl (hN.1 _ hcast)) hcell hv hcl ?_
  · rw [htb, hsplit]
    simp [tableOf]
  · intro z hz
    obtain ⟨z0, hz0, rfl⟩ := List.mem_map.mp hz
    obtain ⟨h1, nm, h2, h3⟩ := hpass z0 hz0
    simp only [Bool.and_eq_true, decide_eq_true_eq] at h1
    exact Or.inr ⟨h1.1.1, nm, hts _ h2, hN.2.2.1 _ h3⟩
  · exact kk q p e s m args below meth c A H locs ls S9 hl hP hD hS
/-- invokevirtual of the own class's method -/
theorem am_callV {y : MethodName} {bytes : ByteArray} {maxL : Nat} {rt : Option FieldType} {rm' : Room} {mc' ms' b idx N9 : Nat} {As : List Value} {Q' : Option Value → va_W → Prop} {X' : String → va_W → Prop} (q0 ci : Nat) {fs : List Value} {T9 : u_T} {N8 : Nat}
    (hC : am_c l D aC y (.code y bytes maxL rt) rm' mc' ms' (.ref b :: As) ws Q' X')
    (hd : decode cc pc = .ok (.invokevirtual idx, 3)) (hst : st = As.reverse ++ .ref b :: rest) (he : ws[q0]? = some (b, .inr (ci, fs))) (hc : am_cl[ci]? = some (y.cls, T9, N8))
    (hlink : Cond.methodLink own idx y ∈ am_TW) (hcode : Cond.code y bytes maxL rt ∈ am_TW) (hinst : Cond.instanceMethod y ∈ am_TW) (hsel : Cond.selects y.cls y y ∈ am_TW) (hini : Cond.initialized y.cls ∈ am_TW)
    (hy : y.cls ≠ "java/lang/invoke/MethodHandle" ∧ y.cls ≠ "java/lang/invoke/VarHandle" ∧ (parseMethodDescriptor y.desc).map (fun d => d.parameters.length) = some N9) (hn : As.length = N9)
    (hcat : (rest.map fun v => v.category).sum ≤ 8) (hrc : rm'.cells = mc' + 1 ∧ rm'.slots = ms' + 6) (hR : rm'.frames + 1 ≤ rm.frames ∧ 8 + (maxL + 11) + rm'.locals ≤ rm.locals) (hk : k + (mc' + 1) ≤ rm.cells ∧ n + (ms' + 6) ≤ rm.slots)
    (kx : ∀ E ws', X' E ws' → am_t l D aC own cc nL ret ini tb G rm mc ms (k + (mc' + 1)) (n + (ms' + 6)) pc L E ws' Q X)
    (kk : ∀ v ws', Q' v ws' → am l D aC own cc nL ret ini tb G rm mc ms (k + mc') (n + ms') (pc + 3) L (v.toList ++ rest) ws' Q X) : am l D aC own cc nL ret ini tb G rm mc ms k n pc L st ws Q X := by
  intro p e s m args below meth c A H locs ls S hl hP hD hS
  subst hst
  have S9 := S
  obtain ⟨hx, hb, hml, hown, hts, hret, hlk, hin, htb, hK, hN, hZ, hA, hlt, hG⟩ := S
  have hB := am_back (R := rm) (p := p) (e := e) (below := below) (s := s) (sargs := args) (len := 3) (W9 := 8) (maxL := maxL) (hC H.size) am_blind hrc.1 hrc.2 hR.1 hR.2 (am_good hts hcode) (am_cd hts hcode) (fun a' U hW => word_at hW (good_of_word (am_TW_g _ hini)) (hts _ hini))
  obtain ⟨cellB, hcB, hoB, hclB⟩ := va_recv hK hP hc he
  intro T hT X9
  rcases vx_callV X9 hx (C := y.cls) (bytes := bytes) (maxL := maxL) (ret := rt) hown (hts _ hlink) (hts _ hinst) (hts _ hsel) (hts _ hcode) ⟨hy.1, hy.2.1⟩ hB (b := b) (cellB := cellB) (by rw [hT]; exact hcB) hoB hclB (g := F0 m pc ls (As.reverse ++ .ref b :: rest)) rfl (hl.1.trans hml.symm) (argsL := As) (rest := rest) (am_pl hy.2.2 hn) rfl (lv_room hcat) (by rw [hb]; exact hd)
    (fun vm₁ hW₁ => ⟨hk.1, hk.2, am_pre hA hK hN hZ hP hD hS (U := T.setVm vm₁) hT hW₁⟩) with ⟨v, vm₁, ⟨U', l2, c2, s2⟩, hW₁, X', ⟨g', mk, t, L9, e1, e2, hq, h1, hL, h2, h3⟩, st9⟩ | ⟨q, vm₁, ⟨U', l2, c2, s2⟩, hW₁, X', ⟨g', mk, t, L9, E, ce, e1, e2, hq, hce, hcv, hcl, h1, hL, h2, h3⟩, st9⟩
  · dsimp only [Pt.U, Pt.locs, Pt.cells, Pt.slots] at X' e1 e2 h1 h2 h3 st9
    subst h1; subst h2; subst h3
    obtain ⟨ws', hQ, hP', hD', hS'⟩ := am_after (T' := U') hA hD hS hT e1 hL hq
    obtain ⟨t2, a1, b1⟩ := kk v ws' hQ p e s m args below meth c A U'.heap _ ls S9 hl hP' hD' hS' U' rfl X'
    exact ⟨t2, st9 t2 a1, b1⟩
  · dsimp only [Pt.U, Pt.locs, Pt.cells, Pt.slots] at X' e1 e2 h1 h2 h3 st9 hcl
    subst h1; subst h2; subst h3
    obtain ⟨ws', hX, hP', hD', hS'⟩ := am_afterX (T' := U') hA hD hS hT e1 hL hq
    obtain ⟨t2, a1, b1⟩ := kx E ws' hX p e s m args below meth c A U'.heap _ ls rest q ce S9 hl hP' hD' hS' (by rw [e1]; exact hce) hcv (vx_cls hW₁ hcl) U' rfl X'
    exact ⟨t2, st9.trans a1, b1⟩
/-- invokestatic of the own class's method -/
theorem am_callS {y : MethodName} {bytes : ByteArray} {maxL : Nat} {rt : Option FieldType} {rm' : Room} {mc' ms' idx N9 : Nat} {As : List Value} {Q' : Option Value → va_W → Prop} {X' : String → va_W → Prop}
    (hC : am_c l D aC y (.code y bytes maxL rt) rm' mc' ms' As ws Q' X')
    (hd : decode cc pc = .ok (.invokestatic idx, 3)) (hst : st = As.reverse ++ rest)
    (hlink : Cond.methodLink own idx y ∈ am_TW) (hcode : Cond.code y bytes maxL rt ∈ am_TW) (hstat : Cond.static y ∈ am_TW) (hini : Cond.initialized y.cls ∈ am_TW)
    (hy : y.cls ≠ "java/lang/invoke/MethodHandle" ∧ y.cls ≠ "java/lang/invoke/VarHandle" ∧ (parseMethodDescriptor y.desc).map (fun d => d.parameters.length) = some N9) (hn : As.length = N9)
    (hcat : (rest.map fun v => v.category).sum ≤ 8) (hrc : rm'.cells = mc' + 1 ∧ rm'.slots = ms' + 6) (hR : rm'.frames + 1 ≤ rm.frames ∧ 8 + (maxL + 11) + rm'.locals ≤ rm.locals) (hk : k + (mc' + 1) ≤ rm.cells ∧ n + (ms' + 6) ≤ rm.slots)
    (kx : ∀ E ws', X' E ws' → am_t l D aC own cc nL ret ini tb G rm mc ms (k + (mc' + 1)) (n + (ms' + 6)) pc L E ws' Q X)
    (kk : ∀ v ws', Q' v ws' → am l D aC own cc nL ret ini tb G rm mc ms (k + mc') (n + ms') (pc + 3) L (v.toList ++ rest) ws' Q X) : am l D aC own cc nL ret ini tb G rm mc ms k n pc L st ws Q X := by
  intro p e s m args below meth c A H locs ls S hl hP hD hS
  subst hst
  have S9 := S
  obtain ⟨hx, hb, hml, hown, hts, hret, hlk, hin, htb, hK, hN, hZ, hA, hlt, hG⟩ := S
  have hB := am_back (R := rm) (p := p) (e := e) (below := below) (s := s) (sargs := args) (len := 3) (W9 := 8) (maxL := maxL) (hC H.size) am_blind hrc.1 hrc.2 hR.1 hR.2 (am_good hts hcode) (am_cd hts hcode) (fun a' U hW => word_at hW (good_of_word (am_TW_g _ hini)) (hts _ hini))
  intro T hT X9
  rcases vx_callS X9 hx (bytes := bytes) (maxL := maxL) (ret := rt) hown (hts _ hlink) (hts _ hstat) (hts _ hini) (hts _ hcode) ⟨hy.1, hy.2.1⟩ hB (g := F0 m pc ls (As.reverse ++ rest)) rfl (hl.1.trans hml.symm) (argsL := As) (rest := rest) (am_pl hy.2.2 hn) rfl (lv_room hcat) (by rw [hb]; exact hd)
    (fun vm₁ hW₁ => ⟨hk.1, hk.2, am_pre hA hK hN hZ hP hD hS (U := T.setVm vm₁) hT hW₁⟩) with ⟨v, vm₁, ⟨U', l2, c2, s2⟩, hW₁, X', ⟨g', mk, t, L9, e1, e2, hq, h1, hL, h2, h3⟩, st9⟩ | ⟨q, vm₁, ⟨U', l2, c2, s2⟩, hW₁, X', ⟨g', mk, t, L9, E, ce, e1, e2, hq, hce, hcv, hcl, h1, hL, h2, h3⟩, st9⟩
  · dsimp only [Pt.U, Pt.locs, Pt.cells, Pt.slots] at X' e1 e2 h1 h2 h3 st9
    subst h1; subst h2; subst h3
    obtain ⟨ws', hQ, hP', hD', hS'⟩ := am_after (T' := U') hA hD hS hT e1 hL hq
    obtain ⟨t2, a1, b1⟩ := kk v ws' hQ p e s m args below meth c A U'.heap _ ls S9 hl hP' hD' hS' U' rfl X'
    exact ⟨t2, st9 t2 a1, b1⟩
  · dsimp only [Pt.U, Pt.locs, Pt.cells, Pt.slots] at X' e1 e2 h1 h2 h3 st9 hcl
    subst h1; subst h2; subst h3
    obtain ⟨ws', hX, hP', hD', hS'⟩ := am_afterX (T' := U') hA hD hS hT e1 hL hq
    obtain ⟨t2, a1, b1⟩ := kx E ws' hX p e s m args below meth c A U'.heap _ ls rest q ce S9 hl hP' hD' hS' (by rw [e1]; exact hce) hcv (vx_cls hW₁ hcl) U' rfl X'
    exact ⟨t2, st9.trans a1, b1⟩
/-- invokestatic of a method with handlers -/
theorem am_callSH {y : MethodName} {bytes : ByteArray} {maxL : Nat} {rt : Option FieldType} {hh : List (Nat × Nat × Nat × Nat)} {rm' : Room} {mc' ms' idx N9 : Nat} {As : List Value} {Q' : Option Value → va_W → Prop} {X' : String → va_W → Prop}
    (hC : am_c l D aC y (.codeWith y bytes maxL rt hh) rm' mc' ms' As ws Q' X')
    (hd : decode cc pc = .ok (.invokestatic idx, 3)) (hst : st = As.reverse ++ rest)
    (hlink : Cond.methodLink own idx y ∈ am_TW) (hcode : Cond.codeWith y bytes maxL rt hh ∈ am_TW) (hstat : Cond.static y ∈ am_TW) (hini : Cond.initialized y.cls ∈ am_TW)
    (hy : y.cls ≠ "java/lang/invoke/MethodHandle" ∧ y.cls ≠ "java/lang/invoke/VarHandle" ∧ (parseMethodDescriptor y.desc).map (fun d => d.parameters.length) = some N9) (hn : As.length = N9)
    (hcat : (rest.map fun v => v.category).sum ≤ 8) (hrc : rm'.cells = mc' + 1 ∧ rm'.slots = ms' + 6) (hR : rm'.frames + 1 ≤ rm.frames ∧ 8 + (maxL + 11) + rm'.locals ≤ rm.locals) (hk : k + (mc' + 1) ≤ rm.cells ∧ n + (ms' + 6) ≤ rm.slots)
    (kx : ∀ E ws', X' E ws' → am_t l D aC own cc nL ret ini tb G rm mc ms (k + (mc' + 1)) (n + (ms' + 6)) pc L E ws' Q X)
    (kk : ∀ v ws', Q' v ws' → am l D aC own cc nL ret ini tb G rm mc ms (k + mc') (n + ms') (pc + 3) L (v.toList ++ rest) ws' Q X) : am l D aC own cc nL ret ini tb G rm mc ms k n pc L st ws Q X := by
  intro p e s m args below meth c A H locs ls S hl hP hD hS
  subst hst
  have S9 := S
  obtain ⟨hx, hb, hml, hown, hts, hret, hlk, hin, htb, hK, hN, hZ, hA, hlt, hG⟩ := S
  have hB := am_back (R := rm) (p := p) (e := e) (below := below) (s := s) (sargs := args) (len := 3) (W9 := 8) (maxL := maxL) (hC H.size) am_blind hrc.1 hrc.2 hR.1 hR.2 (am_good hts hcode) (am_cdH hts hcode) (fun a' U hW => word_at hW (good_of_word (am_TW_g _ hini)) (hts _ hini))
  intro T hT X9
  rcases vx_callSX X9 hx (hh := hh) (bytes := bytes) (maxL := maxL) (ret := rt) hown (hts _ hlink) (hts _ hstat) (hts _ hini) (hts _ hcode) ⟨hy.1, hy.2.1⟩ hB (g := F0 m pc ls (As.reverse ++ rest)) rfl (hl.1.trans hml.symm) (argsL := As) (rest := rest) (am_pl hy.2.2 hn) rfl (lv_room hcat) (by rw [hb]; exact hd)
    (fun vm₁ hW₁ => ⟨hk.1, hk.2, am_pre hA hK hN hZ hP hD hS (U := T.setVm vm₁) hT hW₁⟩) with ⟨v, vm₁, ⟨U', l2, c2, s2⟩, hW₁, X', ⟨g', mk, t, L9, e1, e2, hq, h1, hL, h2, h3⟩, st9⟩ | ⟨q, vm₁, ⟨U', l2, c2, s2⟩, hW₁, X', ⟨g', mk, t, L9, E, ce, e1, e2, hq, hce, hcv, hcl, h1, hL, h2, h3⟩, st9⟩
  · dsimp only [Pt.U, Pt.locs, Pt.cells, Pt.slots] at X' e1 e2 h1 h2 h3 st9
    subst h1; subst h2; subst h3
    obtain ⟨ws', hQ, hP', hD', hS'⟩ := am_after (T' := U') hA hD hS hT e1 hL hq
    obtain ⟨t2, a1, b1⟩ := kk v ws' hQ p e s m args below meth c A U'.heap _ ls S9 hl hP' hD' hS' U' rfl X'
    exact ⟨t2, st9 t2 a1, b1⟩
  · dsimp only [Pt.U, Pt.locs, Pt.cells, Pt.slots] at X' e1 e2 h1 h2 h3 st9 hcl
    subst h1; subst h2; subst h3
    obtain ⟨ws', hX, hP', hD', hS'⟩ := am_afterX (T' := U') hA hD hS hT e1 hL hq
    obtain ⟨t2, a1, b1⟩ := kx E ws' hX p e s m args below meth c A U'.heap _ ls rest q ce S9 hl hP' hD' hS' (by rw [e1]; exact hce) hcv (vx_cls hW₁ hcl) U' rfl X'
    exact ⟨t2, st9.trans a1, b1⟩
theorem am_XF {A : Nat → Prop} : ∀ (B : Pt) (a : Array Value) (q : Addr) (C : Pt), ¬ vx_Post (am_X D A (fun _ _ => False)) mc ms A B a q C := by
  rintro B a q C ⟨g, mk, t, L, E, ce, -, -, ⟨⟨ws, h, -⟩, -⟩, -⟩
  exact h
/-- invokevirtual of a nest mate's method, which doesn't throw -/
theorem am_callVN {y : MethodName} {host : String} {bytes : ByteArray} {maxL : Nat} {rt : Option FieldType} {rm' : Room} {mc' ms' b idx N9 : Nat} {As : List Value} {Q' : Option Value → va_W → Prop} (q0 ci : Nat) {fs : List Value} {T9 : u_T} {N8 : Nat}
    (hC : am_c l D aC y (.code y bytes maxL rt) rm' mc' ms' (.ref b :: As) ws Q' (fun _ _ => False))
    (hd : decode cc pc = .ok (.invokevirtual idx, 3)) (hst : st = As.reverse ++ .ref b :: rest) (he : ws[q0]? = some (b, .inr (ci, fs))) (hc : am_cl[ci]? = some (y.cls, T9, N8))
    (hlink : Cond.methodLinkNest own idx y host ∈ am_TN) (hcode : Cond.code y bytes maxL rt ∈ am_TW) (hinst : Cond.instanceMethod y ∈ am_TW) (hsel : Cond.selects y.cls y y ∈ am_TW) (hini : Cond.initialized y.cls ∈ am_TW)
    (hy : y.cls ≠ "java/lang/invoke/MethodHandle" ∧ y.cls ≠ "java/lang/invoke/VarHandle" ∧ (parseMethodDescriptor y.desc).map (fun d => d.parameters.length) = some N9) (hn : As.length = N9)
    (hcat : (rest.map fun v => v.category).sum ≤ 8) (hrc : rm'.cells = mc' + 1 ∧ rm'.slots = ms' + 6) (hR : rm'.frames + 1 ≤ rm.frames ∧ 8 + (maxL + 11) + rm'.locals ≤ rm.locals) (hk : k + (mc' + 1) ≤ rm.cells ∧ n + (ms' + 6) ≤ rm.slots)
    (kk : ∀ v ws', Q' v ws' → am l D aC own cc nL ret ini tb G rm mc ms (k + mc') (n + ms') (pc + 3) L (v.toList ++ rest) ws' Q X) : am l D aC own cc nL ret ini tb G rm mc ms k n pc L st ws Q X := by
  intro p e s m args below meth c A H locs ls S hl hP hD hS
  subst hst
  have S9 := S
  obtain ⟨hx, hb, hml, hown, hts, hret, hlk, hin, htb, hK, hN, hZ, hA, hlt, hG⟩ := S
  have hB := am_noX (am_back (R := rm) (p := p) (e := e) (below := below) (s := s) (sargs := args) (len := 3) (W9 := 8) (maxL := maxL) (hC H.size) am_blind hrc.1 hrc.2 hR.1 hR.2 (am_good hts hcode) (am_cd hts hcode) (fun a' U hW => word_at hW (good_of_word (am_TW_g _ hini)) (hts _ hini))) am_XF
  obtain ⟨cellB, hcB, hoB, hclB⟩ := va_recv hK hP hc he
  intro T hT X9
  obtain ⟨v, vm₁, ⟨U', l2, c2, s2⟩, hW₁, X', ⟨g', mk, t, L9, e1, e2, hq, h1, hL, h2, h3⟩, st9⟩ := va_callVN X9 hx (C := y.cls) (host := host) (bytes := bytes) (maxL := maxL) (ret := rt) hown (va_Nw.use rfl (hN.1 _ hlink)) (hts _ hinst) (hts _ hsel) (hts _ hcode) ⟨hy.1, hy.2.1⟩ hB (b := b) (cellB := cellB) (by rw [hT]; exact hcB) hoB hclB (g := F0 m pc ls (As.reverse ++ .ref b :: rest)) rfl (hl.1.trans hml.symm) (argsL := As) (rest := rest) (am_pl hy.2.2 hn) rfl (lv_room hcat) (by rw [hb]; exact hd)
    (fun vm₁ hW₁ => ⟨hk.1, hk.2, am_pre hA hK hN hZ hP hD hS (U := T.setVm vm₁) hT hW₁⟩)
  dsimp only [Pt.U, Pt.locs, Pt.cells, Pt.slots] at X' e1 e2 h1 h2 h3 st9
  subst h1; subst h2; subst h3
  obtain ⟨ws', hQ, hP', hD', hS'⟩ := am_after (T' := U') hA hD hS hT e1 hL hq
  obtain ⟨t2, a1, b1⟩ := kk v ws' hQ p e s m args below meth c A U'.heap _ ls S9 hl hP' hD' hS' U' rfl X'
  exact ⟨t2, st9 t2 a1, b1⟩
/-- invokestatic of a nest mate's method, which doesn't throw -/
theorem am_callSN {y : MethodName} {host : String} {bytes : ByteArray} {maxL : Nat} {rt : Option FieldType} {rm' : Room} {mc' ms' idx N9 : Nat} {As : List Value} {Q' : Option Value → va_W → Prop}
    (hC : am_c l D aC y (.code y bytes maxL rt) rm' mc' ms' As ws Q' (fun _ _ => False))
    (hd : decode cc pc = .ok (.invokestatic idx, 3)) (hst : st = As.reverse ++ rest)
    (hlink : Cond.methodLinkNest own idx y host ∈ am_TN) (hcode : Cond.code y bytes maxL rt ∈ am_TW) (hstat : Cond.static y ∈ am_TW) (hini : Cond.initialized y.cls ∈ am_TW)
    (hy : y.cls ≠ "java/lang/invoke/MethodHandle" ∧ y.cls ≠ "java/lang/invoke/VarHandle" ∧ (parseMethodDescriptor y.desc).map (fun d => d.parameters.length) = some N9) (hn : As.length = N9)
    (hcat : (rest.map fun v => v.category).sum ≤ 8) (hrc : rm'.cells = mc' + 1 ∧ rm'.slots = ms' + 6) (hR : rm'.frames + 1 ≤ rm.frames ∧ 8 + (maxL + 11) + rm'.locals ≤ rm.locals) (hk : k + (mc' + 1) ≤ rm.cells ∧ n + (ms' + 6) ≤ rm.slots)
    (kk : ∀ v ws', Q' v ws' → am l D aC own cc nL ret ini tb G rm mc ms (k + mc') (n + ms') (pc + 3) L (v.toList ++ rest) ws' Q X) : am l D aC own cc nL ret ini tb G rm mc ms k n pc L st ws Q X := by
  intro p e s m args below meth c A H locs ls S hl hP hD hS
  subst hst
  have S9 := S
  obtain ⟨hx, hb, hml, hown, hts, hret, hlk, hin, htb, hK, hN, hZ, hA, hlt, hG⟩ := S
  have hB := am_noX (am_back (R := rm) (p := p) (e := e) (below := below) (s := s) (sargs := args) (len := 3) (W9 := 8) (maxL := maxL) (hC H.size) am_blind hrc.1 hrc.2 hR.1 hR.2 (am_good hts hcode) (am_cd hts hcode) (fun a' U hW => word_at hW (good_of_word (am_TW_g _ hini)) (hts _ hini))) am_XF
  intro T hT X9
  obtain ⟨v, vm₁, ⟨U', l2, c2, s2⟩, hW₁, X', ⟨g', mk, t, L9, e1, e2, hq, h1, hL, h2, h3⟩, st9⟩ := va_callSN X9 hx (host := host) (bytes := bytes) (maxL := maxL) (ret := rt) hown (va_Nw.use rfl (hN.1 _ hlink)) (hts _ hstat) (hts _ hini) (hts _ hcode) ⟨hy.1, hy.2.1⟩ hB (g := F0 m pc ls (As.reverse ++ rest)) rfl (hl.1.trans hml.symm) (argsL := As) (rest := rest) (am_pl hy.2.2 hn) rfl (lv_room hcat) (by rw [hb]; exact hd)
    (fun vm₁ hW₁ => ⟨hk.1, hk.2, am_pre hA hK hN hZ hP hD hS (U := T.setVm vm₁) hT hW₁⟩)
  dsimp only [Pt.U, Pt.locs, Pt.cells, Pt.slots] at X' e1 e2 h1 h2 h3 st9
  subst h1; subst h2; subst h3
  obtain ⟨ws', hQ, hP', hD', hS'⟩ := am_after (T' := U') hA hD hS hT e1 hL hq
  obtain ⟨t2, a1, b1⟩ := kk v ws' hQ p e s m args below meth c A U'.heap _ ls S9 hl hP' hD' hS' U' rfl X'
  exact ⟨t2, st9 t2 a1, b1⟩
/-- invokespecial of a nest mate's constructor -/
theorem am_callIN {y : MethodName} {host : String} {bytes : ByteArray} {maxL : Nat} {rm' : Room} {mc' ms' b idx N9 : Nat} {As : List Value} {Q' : Option Value → va_W → Prop}
    (hC : am_c l D aC y (.code y bytes maxL none) rm' mc' ms' (.ref b :: As) ws Q' (fun _ _ => False))
    (hd : decode cc pc = .ok (.invokespecial idx, 3)) (hst : st = As.reverse ++ .ref b :: rest) (hy1 : y.name = "<init>")
    (hlink : Cond.methodLinkNest own idx y host ∈ am_TN) (hcode : Cond.code y bytes maxL none ∈ am_TW) (hinst : Cond.instanceMethod y ∈ am_TW) (hini : Cond.initialized y.cls ∈ am_TW)
    (hy : y.cls ≠ "java/lang/invoke/MethodHandle" ∧ y.cls ≠ "java/lang/invoke/VarHandle" ∧ (parseMethodDescriptor y.desc).map (fun d => d.parameters.length) = some N9) (hn : As.length = N9)
    (hcat : (rest.map fun v => v.category).sum ≤ 8) (hrc : rm'.cells = mc' + 1 ∧ rm'.slots = ms' + 6) (hR : rm'.frames + 1 ≤ rm.frames ∧ 8 + (maxL + 11) + rm'.locals ≤ rm.locals) (hk : k + (mc' + 1) ≤ rm.cells ∧ n + (ms' + 6) ≤ rm.slots)
    (kk : ∀ v ws', Q' v ws' → am l D aC own cc nL ret ini tb G rm mc ms (k + mc') (n + ms') (pc + 3) L (v.toList ++ rest) ws' Q X) : am l D aC own cc nL ret ini tb G rm mc ms k n pc L st ws Q X := by
  intro p e s m args below meth c A H locs ls S hl hP hD hS
  subst hst
  have S9 := S
  obtain ⟨hx, hb, hml, hown, hts, hret, hlk, hin, htb, hK, hN, hZ, hA, hlt, hG⟩ := S
  have hB := am_noX (am_back (R := rm) (p := p) (e := e) (below := below) (s := s) (sargs := args) (len := 3) (W9 := 8) (maxL := maxL) (hC H.size) am_blind hrc.1 hrc.2 hR.1 hR.2 (am_good hts hcode) (am_cd hts hcode) (fun a' U hW => word_at hW (good_of_word (am_TW_g _ hini)) (hts _ hini))) am_XF
  intro T hT X9
  obtain ⟨v, vm₁, ⟨U', l2, c2, s2⟩, hW₁, X', ⟨g', mk, t, L9, e1, e2, hq, h1, hL, h2, h3⟩, st9⟩ := va_callIN X9 hx (host := host) (bytes := bytes) (maxL := maxL) hown hy1 (va_Nw.use rfl (hN.1 _ hlink)) (hts _ hinst) (hts _ hcode) ⟨hy.1, hy.2.1⟩ hB (g := F0 m pc ls (As.reverse ++ .ref b :: rest)) rfl (hl.1.trans hml.symm) (a := b) (argsL := As) (rest := rest) (am_pl hy.2.2 hn) rfl (lv_room hcat) (by rw [hb]; exact hd)
    (fun vm₁ hW₁ => ⟨hk.1, hk.2, am_pre hA hK hN hZ hP hD hS (U := T.setVm vm₁) hT hW₁⟩)
  dsimp only [Pt.U, Pt.locs, Pt.cells, Pt.slots] at X' e1 e2 h1 h2 h3 st9
  subst h1; subst h2; subst h3
  obtain ⟨ws', hQ, hP', hD', hS'⟩ := am_after (T' := U') hA hD hS hT e1 hL hq
  obtain ⟨t2, a1, b1⟩ := kk v ws' hQ p e s m args below meth c A U'.heap _ ls S9 hl hP' hD' hS' U' rfl X'
  exact ⟨t2, st9 t2 a1, b1⟩
/-- invokespecial of a constructor -/
theorem am_callI {y : MethodName} {bytes : ByteArray} {maxL : Nat} {rm' : Room} {mc' ms' b idx N9 : Nat} {As : List Value} {Q' : Option Value → va_W → Prop}
    (hC : am_c l D aC y (.code y bytes maxL none) rm' mc' ms' (.ref b :: As) ws Q' (fun _ _ => False))
    (hd : decode cc pc = .ok (.invokespecial idx, 3)) (hst : st = As.reverse ++ .ref b :: rest) (hy1 : y.name = "<init>")
    (hlink : Cond.methodLink own idx y ∈ am_TW) (hcode : Cond.code y bytes maxL none ∈ am_TW) (hinst : Cond.instanceMethod y ∈ am_TW) (hini : Cond.initialized y.cls ∈ am_TW)
    (hy : y.cls ≠ "java/lang/invoke/MethodHandle" ∧ y.cls ≠ "java/lang/invoke/VarHandle" ∧ (parseMethodDescriptor y.desc).map (fun d => d.parameters.length) = some N9) (hn : As.length = N9)
    (hcat : (rest.map fun v => v.category).sum ≤ 8) (hrc : rm'.cells = mc' + 1 ∧ rm'.slots = ms' + 6) (hR : rm'.frames + 1 ≤ rm.frames ∧ 8 + (maxL + 11) + rm'.locals ≤ rm.locals) (hk : k + (mc' + 1) ≤ rm.cells ∧ n + (ms' + 6) ≤ rm.slots)
    (kk : ∀ v ws', Q' v ws' → am l D aC own cc nL ret ini tb G rm mc ms (k + mc') (n + ms') (pc + 3) L (v.toList ++ rest) ws' Q X) : am l D aC own cc nL ret ini tb G rm mc ms k n pc L st ws Q X := by
  intro p e s m args below meth c A H locs ls S hl hP hD hS
  subst hst
  have S9 := S
  obtain ⟨hx, hb, hml, hown, hts, hret, hlk, hin, htb, hK, hN, hZ, hA, hlt, hG⟩ := S
  have hB := am_noX (am_back (R := rm) (p := p) (e := e) (below := below) (s := s) (sargs := args) (len := 3) (W9 := 8) (maxL := maxL) (hC H.size) am_blind hrc.1 hrc.2 hR.1 hR.2 (am_good hts hcode) (am_cd hts hcode) (fun a' U hW => word_at hW (good_of_word (am_TW_g _ hini)) (hts _ hini))) am_XF
  intro T hT X9
  obtain ⟨v, vm₁, ⟨U', l2, c2, s2⟩, hW₁, X', ⟨g', mk, t, L9, e1, e2, hq, h1, hL, h2, h3⟩, st9⟩ := callI X9 hx (bytes := bytes) (maxL := maxL) hown hy1 (hts _ hlink) (hts _ hinst) (hts _ hcode) ⟨hy.1, hy.2.1⟩ hB (g := F0 m pc ls (As.reverse ++ .ref b :: rest)) rfl (hl.1.trans hml.symm) (a := b) (argsL := As) (rest := rest) (am_pl hy.2.2 hn) rfl (lv_room hcat) (by rw [hb]; exact hd)
    (fun vm₁ hW₁ => ⟨hk.1, hk.2, am_pre hA hK hN hZ hP hD hS (U := T.setVm vm₁) hT hW₁⟩)
  dsimp only [Pt.U, Pt.locs, Pt.cells, Pt.slots] at X' e1 e2 h1 h2 h3 st9
  subst h1; subst h2; subst h3
  obtain ⟨ws', hQ, hP', hD', hS'⟩ := am_after (T' := U') hA hD hS hT e1 hL hq
  obtain ⟨t2, a1, b1⟩ := kk v ws' hQ p e s m args below meth c A U'.heap _ ls S9 hl hP' hD' hS' U' rfl X'
  exact ⟨t2, st9 t2 a1, b1⟩
end AMC
section AMR
variable {l : Launch} {D : va_G} {aC : Nat → ClassId} {own : String} {cc : ByteArray} {nL : Nat} {ret : Option FieldType} {ini : Bool} {tb : List (Nat × Nat × Nat × Nat)} {G : State → (Nat → Prop) → Prop} {rm : Room} {mc ms k n pc : Nat} {L : List (Nat × Value)} {st : List Value} {ws : va_W} {Q : Option Value → va_W → Prop} {X : String → va_W → Prop}
theorem am_ret {p : Program} {l : Launch} {e : Env} {R : Room} {s : State} {m : MethodId} {args : Array Value} {below : List Frame} {meth : Method} {c : Code} {H : Heap} {locs : List Loc} {cells slots : Nat} {Qc : Array Value → State → Outcome → State → Prop} {XC : String → State → State → Prop} {free : Addr → Prop} {g : JFrame} {mc ms : Nat} (k : W p l e R s m args below meth c H locs cells slots (MQ below Qc args s mc ms free) g) : W p l e R s m args below meth c H locs cells slots (am_MQ below Qc XC args s mc ms free) g := by
  intro T hT X
  obtain ⟨t, a1, o, b1, b2, b3, b4⟩ := k T hT X
  exact ⟨t, a1, o, b1, b2, Or.inl ⟨b3, b4⟩⟩
theorem am_thr {p : Program} {l : Launch} {e : Env} {R : Room} {s : State} {m : MethodId} {args : Array Value} {below : List Frame} {meth : Method} {c : Code} {H : Heap} {locs : List Loc} {cells slots : Nat} {Qc : Array Value → State → Outcome → State → Prop} {XC : String → State → State → Prop} {free : Addr → Prop} {g : JFrame} {mc ms : Nat} (k : W p l e R s m args below meth c H locs cells slots (vx_MQ below (fun _ _ _ _ => False) XC args s (mc + 1) (ms + 6) free) g) : W p l e R s m args below meth c H locs cells slots (am_MQ below Qc XC args s mc ms free) g := by
  intro T hT X
  obtain ⟨t, a1, o, b1, b2, b3⟩ := k T hT X
  refine ⟨t, a1, o, b1, b2, ?_⟩
  rcases b3 with ⟨h, -⟩ | h
  · exact h.elim
  · exact Or.inr h
theorem am_iadd {x y : Int32} (hd : decode cc pc = .ok (.iadd, 1)) (h : am l D aC own cc nL ret ini tb G rm mc ms k n (pc + 1) L (.int (x + y) :: st) ws Q X) : am l D aC own cc nL ret ini tb G rm mc ms k n pc L (.int y :: .int x :: st) ws Q X := by
  intro p e s m args below meth c A H locs ls S hl hP hD hS
  exact lv_iadd S.1 S.2.1 hd (h p e s m args below meth c A H locs ls S hl hP hD hS)
theorem am_isub {x y : Int32} (hd : decode cc pc = .ok (.isub, 1)) (h : am l D aC own cc nL ret ini tb G rm mc ms k n (pc + 1) L (.int (x - y) :: st) ws Q X) : am l D aC own cc nL ret ini tb G rm mc ms k n pc L (.int y :: .int x :: st) ws Q X := by
  intro p e s m args below meth c A H locs ls S hl hP hD hS
  exact lv_isub S.1 S.2.1 hd (h p e s m args below meth c A H locs ls S hl hP hD hS)
theorem am_imul {x y : Int32} (hd : decode cc pc = .ok (.imul, 1)) (h : am l D aC own cc nL ret ini tb G rm mc ms k n (pc + 1) L (.int (x * y) :: st) ws Q X) : am l D aC own cc nL ret ini tb G rm mc ms k n pc L (.int y :: .int x :: st) ws Q X := by
  intro p e s m args below meth c A H locs ls S hl hP hD hS
  exact lv_imul S.1 S.2.1 hd (h p e s m args below meth c A H locs ls S hl hP hD hS)
theorem am_iand {x y : Int32} (hd : decode cc pc = .ok (.iand, 1)) (h : am l D aC own cc nL ret ini tb G rm mc ms k n (pc + 1) L (.int (x &&& y) :: st) ws Q X) : am l D aC own cc nL ret ini tb G rm mc ms k n pc L (.int y :: .int x :: st) ws Q X := by
  intro p e s m args below meth c A H locs ls S hl hP hD hS
  exact lv_iand S.1 S.2.1 hd (h p e s m args below meth c A H locs ls S hl hP hD hS)
theorem am_ior {x y : Int32} (hd : decode cc pc = .ok (.ior, 1)) (h : am l D aC own cc nL ret ini tb G rm mc ms k n (pc + 1) L (.int (x ||| y) :: st) ws Q X) : am l D aC own cc nL ret ini tb G rm mc ms k n pc L (.int y :: .int x :: st) ws Q X := by
  intro p e s m args below meth c A H locs ls S hl hP hD hS
  exact lv_ior S.1 S.2.1 hd (h p e s m args below meth c A H locs ls S hl hP hD hS)
theorem am_ixor {x y : Int32} (hd : decode cc pc = .ok (.ixor, 1)) (h : am l D aC own cc nL ret ini tb G rm mc ms k n (pc + 1) L (.int (x ^^^ y) :: st) ws Q X) : am l D aC own cc nL ret ini tb G rm mc ms k n pc L (.int y :: .int x :: st) ws Q X := by
  intro p e s m args below meth c A H locs ls S hl hP hD hS
  exact lv_ixor S.1 S.2.1 hd (h p e s m args below meth c A H locs ls S hl hP hD hS)
theorem am_ishl {x y : Int32} (hd : decode cc pc = .ok (.ishl, 1)) (h : am l D aC own cc nL ret ini tb G rm mc ms k n (pc + 1) L (.int (x <<< (y &&& 31)) :: st) ws Q X) : am l D aC own cc nL ret ini tb G rm mc ms k n pc L (.int y :: .int x :: st) ws Q X := by
  intro p e s m args below meth c A H locs ls S hl hP hD hS
  exact lv_ishl S.1 S.2.1 hd (h p e s m args below meth c A H locs ls S hl hP hD hS)
theorem am_ishr {x y : Int32} (hd : decode cc pc = .ok (.ishr, 1)) (h : am l D aC own cc nL ret ini tb G rm mc ms k n (pc + 1) L (.int (x >>> (y &&& 31)) :: st) ws Q X) : am l D aC own cc nL ret ini tb G rm mc ms k n pc L (.int y :: .int x :: st) ws Q X := by
  intro p e s m args below meth c A H locs ls S hl hP hD hS
  exact lv_ishr S.1 S.2.1 hd (h p e s m args below meth c A H locs ls S hl hP hD hS)
theorem am_idiv {x y : Int32} (hd : decode cc pc = .ok (.idiv, 1)) (hne : ¬ y = 0) (h : am l D aC own cc nL ret ini tb G rm mc ms k n (pc + 1) L (.int (x / y) :: st) ws Q X) : am l D aC own cc nL ret ini tb G rm mc ms k n pc L (.int y :: .int x :: st) ws Q X := by
  intro p e s m args below meth c A H locs ls S hl hP hD hS
  exact lv_idiv S.1 S.2.1 hd hne (h p e s m args below meth c A H locs ls S hl hP hD hS)
theorem am_irem {x y : Int32} (hd : decode cc pc = .ok (.irem, 1)) (hne : ¬ y = 0) (h : am l D aC own cc nL ret ini tb G rm mc ms k n (pc + 1) L (.int (x - x / y * y) :: st) ws Q X) : am l D aC own cc nL ret ini tb G rm mc ms k n pc L (.int y :: .int x :: st) ws Q X := by
  intro p e s m args below meth c A H locs ls S hl hP hD hS
  exact lv_irem S.1 S.2.1 hd hne (h p e s m args below meth c A H locs ls S hl hP hD hS)
theorem am_iushr {x y : Int32} (hd : decode cc pc = .ok (.iushr, 1)) (h : am l D aC own cc nL ret ini tb G rm mc ms k n (pc + 1) L (.int ((x.toUInt32 >>> (y.toUInt32 &&& Int32.toUInt32 31)).toInt32) :: st) ws Q X) : am l D aC own cc nL ret ini tb G rm mc ms k n pc L (.int y :: .int x :: st) ws Q X := by
  intro p e s m args below meth c A H locs ls S hl hP hD hS
  exact lv_iushr S.1 S.2.1 hd rfl (h p e s m args below meth c A H locs ls S hl hP hD hS)
theorem am_ineg {x : Int32} (hd : decode cc pc = .ok (.ineg, 1)) (h : am l D aC own cc nL ret ini tb G rm mc ms k n (pc + 1) L (.int (-x) :: st) ws Q X) : am l D aC own cc nL ret ini tb G rm mc ms k n pc L (.int x :: st) ws Q X := by
  intro p e s m args below meth c A H locs ls S hl hP hD hS
  exact lv_ineg S.1 S.2.1 hd (h p e s m args below meth c A H locs ls S hl hP hD hS)
theorem am_ladd {x y : Int64} (hd : decode cc pc = .ok (.ladd, 1)) (h : am l D aC own cc nL ret ini tb G rm mc ms k n (pc + 1) L (.long (x + y) :: st) ws Q X) : am l D aC own cc nL ret ini tb G rm mc ms k n pc L (.long y :: .long x :: st) ws Q X := by
  intro p e s m args below meth c A H locs ls S hl hP hD hS
  exact lv_ladd S.1 S.2.1 hd (h p e s m args below meth c A H locs ls S hl hP hD hS)
theorem am_lsub {x y : Int64} (hd : decode cc pc = .ok (.lsub, 1)) (h : am l D aC own cc nL ret ini tb G rm mc ms k n (pc + 1) L (.long (x - y) :: st) ws Q X) : am l D aC own cc nL ret ini tb G rm mc ms k n pc L (.long y :: .long x :: st) ws Q X := by
  intro p e s m args below meth c A H locs ls S hl hP hD hS
  exact lv_lsub S.1 S.2.1 hd (h p e s m args below meth c A H locs ls S hl hP hD hS)
theorem am_lmul {x y : Int64} (hd : decode cc pc = .ok (.lmul, 1)) (h : am l D aC own cc nL ret ini tb G rm mc ms k n (pc + 1) L (.long (x * y) :: st) ws Q X) : am l D aC own cc nL ret ini tb G rm mc ms k n pc L (.long y :: .long x :: st) ws Q X := by
  intro p e s m args below meth c A H locs ls S hl hP hD hS
  exact lv_lmul S.1 S.2.1 hd (h p e s m args below meth c A H locs ls S hl hP hD hS)
theorem am_land {x y : Int64} (hd : decode cc pc = .ok (.land, 1)) (h : am l D aC own cc nL ret ini tb G rm mc ms k n (pc + 1) L (.long (x &&& y) :: st) ws Q X) : am l D aC own cc nL ret ini tb G rm mc ms k n pc L (.long y :: .long x :: st) ws Q X := by
  intro p e s m args below meth c A H locs ls S hl hP hD hS
  exact lv_land S.1 S.2.1 hd (h p e s m args below meth c A H locs ls S hl hP hD hS)
theorem am_lor {x y : Int64} (hd : decode cc pc = .ok (.lor, 1)) (h : am l D aC own cc nL ret ini tb G rm mc ms k n (pc + 1) L (.long (x ||| y) :: st) ws Q X) : am l D aC own cc nL ret ini tb G rm mc ms k n pc L (.long y :: .long x :: st) ws Q X := by
  intro p e s m args below meth c A H locs ls S hl hP hD hS
  exact lv_lor S.1 S.2.1 hd (h p e s m args below meth c A H locs ls S hl hP hD hS)
theorem am_lxor {x y : Int64} (hd : decode cc pc = .ok (.lxor, 1)) (h : am l D aC own cc nL ret ini tb G rm mc ms k n (pc + 1) L (.long (x ^^^ y) :: st) ws Q X) : am l D aC own cc nL ret ini tb G rm mc ms k n pc L (.long y :: .long x :: st) ws Q X := by
  intro p e s m args below meth c A H locs ls S hl hP hD hS
  exact lv_lxor S.1 S.2.1 hd (h p e s m args below meth c A H locs ls S hl hP hD hS)
theorem am_lshl {x : Int64} {y : Int32} (hd : decode cc pc = .ok (.lshl, 1)) (h : am l D aC own cc nL ret ini tb G rm mc ms k n (pc + 1) L (.long (x <<< (y.toInt64 &&& 63)) :: st) ws Q X) : am l D aC own cc nL ret ini tb G rm mc ms k n pc L (.int y :: .long x :: st) ws Q X := by
  intro p e s m args below meth c A H locs ls S hl hP hD hS
  exact lv_lshl S.1 S.2.1 hd rfl (h p e s m args below meth c A H locs ls S hl hP hD hS)
theorem am_lshr {x : Int64} {y : Int32} (hd : decode cc pc = .ok (.lshr, 1)) (h : am l D aC own cc nL ret ini tb G rm mc ms k n (pc + 1) L (.long (x >>> (y.toInt64 &&& 63)) :: st) ws Q X) : am l D aC own cc nL ret ini tb G rm mc ms k n pc L (.int y :: .long x :: st) ws Q X := by
  intro p e s m args below meth c A H locs ls S hl hP hD hS
  exact lv_lshr S.1 S.2.1 hd rfl (h p e s m args below meth c A H locs ls S hl hP hD hS)
theorem am_lushr {x : Int64} {y : Int32} (hd : decode cc pc = .ok (.lushr, 1)) (h : am l D aC own cc nL ret ini tb G rm mc ms k n (pc + 1) L (.long ((x.toUInt64 >>> (y.toInt64.toUInt64 &&& Int64.toUInt64 63)).toInt64) :: st) ws Q X) : am l D aC own cc nL ret ini tb G rm mc ms k n pc L (.int y :: .long x :: st) ws Q X := by
  intro p e s m args below meth c A H locs ls S hl hP hD hS
  exact lv_lushr S.1 S.2.1 hd rfl (h p e s m args below meth c A H locs ls S hl hP hD hS)
theorem am_i2l {x : Int32} (hd : decode cc pc = .ok (.i2l, 1)) (h : am l D aC own cc nL ret ini tb G rm mc ms k n (pc + 1) L (.long x.toInt64 :: st) ws Q X) : am l D aC own cc nL ret ini tb G rm mc ms k n pc L (.int x :: st) ws Q X := by
  intro p e s m args below meth c A H locs ls S hl hP hD hS
  exact lv_i2l S.1 S.2.1 hd rfl (h p e s m args below meth c A H locs ls S hl hP hD hS)
theorem am_l2i {x : Int64} (hd : decode cc pc = .ok (.l2i, 1)) (h : am l D aC own cc nL ret ini tb G rm mc ms k n (pc + 1) L (.int x.toInt32 :: st) ws Q X) : am l D aC own cc nL ret ini tb G rm mc ms k n pc L (.long x :: st) ws Q X := by
  intro p e s m args below meth c A H locs ls S hl hP hD hS
  exact lv_l2i S.1 S.2.1 hd rfl (h p e s m args below meth c A H locs ls S hl hP hD hS)
theorem am_lcmp {x y : Int64} (hd : decode cc pc = .ok (.lcmp, 1)) (h : am l D aC own cc nL ret ini tb G rm mc ms k n (pc + 1) L (.int (lg_cmp x y) :: st) ws Q X) : am l D aC own cc nL ret ini tb G rm mc ms k n pc L (.long y :: .long x :: st) ws Q X := by
  intro p e s m args below meth c A H locs ls S hl hP hD hS
  exact W.lcmp S.1 S.2.1 hd (h p e s m args below meth c A H locs ls S hl hP hD hS)
theorem am_iconst {i : Int} {v : Int32} (hd : decode cc pc = .ok (.iconst i, 1)) (hv : Int32.ofInt i = v) (h : am l D aC own cc nL ret ini tb G rm mc ms k n (pc + 1) L (.int v :: st) ws Q X) : am l D aC own cc nL ret ini tb G rm mc ms k n pc L (st) ws Q X := by
  intro p e s m args below meth c A H locs ls S hl hP hD hS
  exact lv_iconst S.1 S.2.1 hd hv (h p e s m args below meth c A H locs ls S hl hP hD hS)
theorem am_bipush {i : Int} {v : Int32} (hd : decode cc pc = .ok (.bipush i, 2)) (hv : (Int8.ofInt i).toInt32 = v) (h : am l D aC own cc nL ret ini tb G rm mc ms k n (pc + 2) L (.int v :: st) ws Q X) : am l D aC own cc nL ret ini tb G rm mc ms k n pc L (st) ws Q X := by
  intro p e s m args below meth c A H locs ls S hl hP hD hS
  exact lv_bipush S.1 S.2.1 hd hv (h p e s m args below meth c A H locs ls S hl hP hD hS)
theorem am_sipush {i : Int} {v : Int32} (hd : decode cc pc = .ok (.sipush i, 3)) (hv : (Int16.ofInt i).toInt32 = v) (h : am l D aC own cc nL ret ini tb G rm mc ms k n (pc + 3) L (.int v :: st) ws Q X) : am l D aC own cc nL ret ini tb G rm mc ms k n pc L (st) ws Q X := by
  intro p e s m args below meth c A H locs ls S hl hP hD hS
  exact lv_sipush S.1 S.2.1 hd hv (h p e s m args below meth c A H locs ls S hl hP hD hS)
theorem am_lconst {i : Fin 2} {v : Int64} (hd : decode cc pc = .ok (.lconst i, 1)) (hv : Int64.ofNat (i : Nat) = v) (h : am l D aC own cc nL ret ini tb G rm mc ms k n (pc + 1) L (.long v :: st) ws Q X) : am l D aC own cc nL ret ini tb G rm mc ms k n pc L (st) ws Q X := by
  intro p e s m args below meth c A H locs ls S hl hP hD hS
  exact lv_lconst S.1 S.2.1 hd hv (h p e s m args below meth c A H locs ls S hl hP hD hS)
theorem am_ldc {i : Nat} {v : Int32} (hd : decode cc pc = .ok (.ldc i, 2)) (hw : Cond.constant own i v ∈ am_TW) (h : am l D aC own cc nL ret ini tb G rm mc ms k n (pc + 2) L (.int v :: st) ws Q X) : am l D aC own cc nL ret ini tb G rm mc ms k n pc L (st) ws Q X := by
  intro p e s m args below meth c A H locs ls S hl hP hD hS
  exact lv_ldc S.1 S.2.1 S.2.2.2.1 (S.2.2.2.2.1 _ hw) hd (h p e s m args below meth c A H locs ls S hl hP hD hS)
theorem am_ldc2 {i : Nat} {v : Int64} (hd : decode cc pc = .ok (.ldc2_w i, 3)) (hw : Cond.constantLong own i v ∈ am_TW) (h : am l D aC own cc nL ret ini tb G rm mc ms k n (pc + 3) L (.long v :: st) ws Q X) : am l D aC own cc nL ret ini tb G rm mc ms k n pc L (st) ws Q X := by
  intro p e s m args below meth c A H locs ls S hl hP hD hS
  exact lv_ldc2 S.1 S.2.1 S.2.2.2.1 (S.2.2.2.2.1 _ hw) hd (h p e s m args below meth c A H locs ls S hl hP hD hS)
theorem am_iload_n {q : Fin 4} {i : Nat} {x : Int32} (j : Nat) (hd : decode cc pc = .ok (.iload_n q, 1)) (hi : (q : Nat) = i) (hj : L[j]? = some (i, .int x)) (h : am l D aC own cc nL ret ini tb G rm mc ms k n (pc + 1) L (.int x :: st) ws Q X) : am l D aC own cc nL ret ini tb G rm mc ms k n pc L (st) ws Q X := by
  intro p e s m args below meth c A H locs ls S hl hP hD hS
  exact lv_iload_n S.1 S.2.1 hd hi (lv_at hl j hj) (h p e s m args below meth c A H locs ls S hl hP hD hS)
theorem am_iload {i : Nat} {x : Int32} (j : Nat) (hd : decode cc pc = .ok (.iload i, 2)) (hj : L[j]? = some (i, .int x)) (h : am l D aC own cc nL ret ini tb G rm mc ms k n (pc + 2) L (.int x :: st) ws Q X) : am l D aC own cc nL ret ini tb G rm mc ms k n pc L (st) ws Q X := by
  intro p e s m args below meth c A H locs ls S hl hP hD hS
  exact lv_iload S.1 S.2.1 hd (lv_at hl j hj) (h p e s m args below meth c A H locs ls S hl hP hD hS)
theorem am_istore_n {q : Fin 4} {i : Nat} {x : Int32} {L2 : List (Nat × Value)} (hd : decode cc pc = .ok (.istore_n q, 1)) (hi : (q : Nat) = i) (hlim : i < nL) (hL2 : (i, Value.int x) :: L.filter (fun q => !(q.1 == i) && !(q.1 + 1 == i && q.2.category == 2)) = L2) (h : am l D aC own cc nL ret ini tb G rm mc ms k n (pc + 1) L2 (st) ws Q X) : am l D aC own cc nL ret ini tb G rm mc ms k n pc L (.int x :: st) ws Q X := by
  intro p e s m args below meth c A H locs ls S hl hP hD hS
  exact lv_istore_n S.1 S.2.1 hd hi hl hlim hL2 (fun ls2 hl2 => h p e s m args below meth c A H locs ls2 S hl2 hP hD hS)
theorem am_istore {i : Nat} {x : Int32} {L2 : List (Nat × Value)} (hd : decode cc pc = .ok (.istore i, 2)) (hlim : i < nL) (hL2 : (i, Value.int x) :: L.filter (fun q => !(q.1 == i) && !(q.1 + 1 == i && q.2.category == 2)) = L2) (h : am l D aC own cc nL ret ini tb G rm mc ms k n (pc + 2) L2 (st) ws Q X) : am l D aC own cc nL ret ini tb G rm mc ms k n pc L (.int x :: st) ws Q X := by
  intro p e s m args below meth c A H locs ls S hl hP hD hS
  exact lv_istore S.1 S.2.1 hd hl hlim hL2 (fun ls2 hl2 => h p e s m args below meth c A H locs ls2 S hl2 hP hD hS)
theorem am_lload_n {q : Fin 4} {i : Nat} {x : Int64} (j : Nat) (hd : decode cc pc = .ok (.lload_n q, 1)) (hi : (q : Nat) = i) (hj : L[j]? = some (i, .long x)) (h : am l D aC own cc nL ret ini tb G rm mc ms k n (pc + 1) L (.long x :: st) ws Q X) : am l D aC own cc nL ret ini tb G rm mc ms k n pc L (st) ws Q X := by
  intro p e s m args below meth c A H locs ls S hl hP hD hS
  exact lv_lload_n S.1 S.2.1 hd hi (lv_at hl j hj) (h p e s m args below meth c A H locs ls S hl hP hD hS)
theorem am_lload {i : Nat} {x : Int64} (j : Nat) (hd : decode cc pc = .ok (.lload i, 2)) (hj : L[j]? = some (i, .long x)) (h : am l D aC own cc nL ret ini tb G rm mc ms k n (pc + 2) L (.long x :: st) ws Q X) : am l D aC own cc nL ret ini tb G rm mc ms k n pc L (st) ws Q X := by
  intro p e s m args below meth c A H locs ls S hl hP hD hS
  exact lv_lload S.1 S.2.1 hd (lv_at hl j hj) (h p e s m args below meth c A H locs ls S hl hP hD hS)
theorem am_lstore_n {q : Fin 4} {i : Nat} {x : Int64} {L2 : List (Nat × Value)} (hd : decode cc pc = .ok (.lstore_n q, 1)) (hi : (q : Nat) = i) (hlim : i + 1 < nL) (hL2 : (i, Value.long x) :: L.filter (fun q => !(q.1 == i) && (!(q.1 == i + 1) && !(q.1 + 1 == i && q.2.category == 2))) = L2) (h : am l D aC own cc nL ret ini tb G rm mc ms k n (pc + 1) L2 (st) ws Q X) : am l D aC own cc nL ret ini tb G rm mc ms k n pc L (.long x :: st) ws Q X := by
  intro p e s m args below meth c A H locs ls S hl hP hD hS
  exact lv_lstore_n S.1 S.2.1 hd hi hl hlim hL2 (fun ls2 hl2 => h p e s m args below meth c A H locs ls2 S hl2 hP hD hS)
theorem am_lstore {i : Nat} {x : Int64} {L2 : List (Nat × Value)} (hd : decode cc pc = .ok (.lstore i, 2)) (hlim : i + 1 < nL) (hL2 : (i, Value.long x) :: L.filter (fun q => !(q.1 == i) && (!(q.1 == i + 1) && !(q.1 + 1 == i && q.2.category == 2))) = L2) (h : am l D aC own cc nL ret ini tb G rm mc ms k n (pc + 2) L2 (st) ws Q X) : am l D aC own cc nL ret ini tb G rm mc ms k n pc L (.long x :: st) ws Q X := by
  intro p e s m args below meth c A H locs ls S hl hP hD hS
  exact lv_lstore S.1 S.2.1 hd hl hlim hL2 (fun ls2 hl2 => h p e s m args below meth c A H locs ls2 S hl2 hP hD hS)
theorem am_aload_n {q : Fin 4} {i : Nat} {x : Nat} (j : Nat) (hd : decode cc pc = .ok (.aload_n q, 1)) (hi : (q : Nat) = i) (hj : L[j]? = some (i, .ref x)) (h : am l D aC own cc nL ret ini tb G rm mc ms k n (pc + 1) L (.ref x :: st) ws Q X) : am l D aC own cc nL ret ini tb G rm mc ms k n pc L (st) ws Q X := by
  intro p e s m args below meth c A H locs ls S hl hP hD hS
  exact lv_aload_n S.1 S.2.1 hd hi (lv_at hl j hj) (h p e s m args below meth c A H locs ls S hl hP hD hS)
theorem am_aload {i : Nat} {x : Nat} (j : Nat) (hd : decode cc pc = .ok (.aload i, 2)) (hj : L[j]? = some (i, .ref x)) (h : am l D aC own cc nL ret ini tb G rm mc ms k n (pc + 2) L (.ref x :: st) ws Q X) : am l D aC own cc nL ret ini tb G rm mc ms k n pc L (st) ws Q X := by
  intro p e s m args below meth c A H locs ls S hl hP hD hS
  exact lv_aload S.1 S.2.1 hd (lv_at hl j hj) (h p e s m args below meth c A H locs ls S hl hP hD hS)
theorem am_astore_n {q : Fin 4} {i : Nat} {x : Nat} {L2 : List (Nat × Value)} (hd : decode cc pc = .ok (.astore_n q, 1)) (hi : (q : Nat) = i) (hlim : i < nL) (hL2 : (i, Value.ref x) :: L.filter (fun q => !(q.1 == i) && !(q.1 + 1 == i && q.2.category == 2)) = L2) (h : am l D aC own cc nL ret ini tb G rm mc ms k n (pc + 1) L2 (st) ws Q X) : am l D aC own cc nL ret ini tb G rm mc ms k n pc L (.ref x :: st) ws Q X := by
  intro p e s m args below meth c A H locs ls S hl hP hD hS
  exact lv_astore_n S.1 S.2.1 hd hi hl hlim hL2 (fun ls2 hl2 => h p e s m args below meth c A H locs ls2 S hl2 hP hD hS)
theorem am_astore {i : Nat} {x : Nat} {L2 : List (Nat × Value)} (hd : decode cc pc = .ok (.astore i, 2)) (hlim : i < nL) (hL2 : (i, Value.ref x) :: L.filter (fun q => !(q.1 == i) && !(q.1 + 1 == i && q.2.category == 2)) = L2) (h : am l D aC own cc nL ret ini tb G rm mc ms k n (pc + 2) L2 (st) ws Q X) : am l D aC own cc nL ret ini tb G rm mc ms k n pc L (.ref x :: st) ws Q X := by
  intro p e s m args below meth c A H locs ls S hl hP hD hS
  exact lv_astore S.1 S.2.1 hd hl hlim hL2 (fun ls2 hl2 => h p e s m args below meth c A H locs ls2 S hl2 hP hD hS)
theorem am_iinc {i j : Nat} {d : Int} {x v : Int32} {L2 : List (Nat × Value)} (hd : decode cc pc = .ok (.iinc i d, 3)) (hj : L[j]? = some (i, .int x)) (hv : x + Int32.ofInt d = v) (hlim : i < nL) (hL2 : (i, Value.int v) :: L.filter (fun q => !(q.1 == i) && !(q.1 + 1 == i && q.2.category == 2)) = L2) (h : am l D aC own cc nL ret ini tb G rm mc ms k n (pc + 3) L2 (st) ws Q X) : am l D aC own cc nL ret ini tb G rm mc ms k n pc L (st) ws Q X := by
  intro p e s m args below meth c A H locs ls S hl hP hD hS
  exact lv_iinc S.1 S.2.1 hd hl hj hv hlim hL2 (fun ls2 hl2 => h p e s m args below meth c A H locs ls2 S hl2 hP hD hS)
theorem am_dup {v : Value} (hd : decode cc pc = .ok (.dup, 1)) (hv : v.category = 1) (h : am l D aC own cc nL ret ini tb G rm mc ms k n (pc + 1) L (v :: v :: st) ws Q X) : am l D aC own cc nL ret ini tb G rm mc ms k n pc L (v :: st) ws Q X := by
  intro p e s m args below meth c A H locs ls S hl hP hD hS
  exact lv_dup S.1 S.2.1 hd hv (h p e s m args below meth c A H locs ls S hl hP hD hS)
theorem am_pop {v : Value} (hd : decode cc pc = .ok (.pop, 1)) (hv : v.category = 1) (h : am l D aC own cc nL ret ini tb G rm mc ms k n (pc + 1) L (st) ws Q X) : am l D aC own cc nL ret ini tb G rm mc ms k n pc L (v :: st) ws Q X := by
  intro p e s m args below meth c A H locs ls S hl hP hD hS
  exact lv_pop S.1 S.2.1 hd hv (h p e s m args below meth c A H locs ls S hl hP hD hS)
theorem am_dup_x1 {v w : Value} (hd : decode cc pc = .ok (.dup_x1, 1)) (hv : v.category = 1) (hw : w.category = 1) (h : am l D aC own cc nL ret ini tb G rm mc ms k n (pc + 1) L (v :: w :: v :: st) ws Q X) : am l D aC own cc nL ret ini tb G rm mc ms k n pc L (v :: w :: st) ws Q X := by
  intro p e s m args below meth c A H locs ls S hl hP hD hS
  exact lv_dup_x1 S.1 S.2.1 hd hv hw (h p e s m args below meth c A H locs ls S hl hP hD hS)
theorem am_dup2 {v w : Value} (hd : decode cc pc = .ok (.dup2, 1)) (hv : v.category = 1) (hw : w.category = 1) (h : am l D aC own cc nL ret ini tb G rm mc ms k n (pc + 1) L (v :: w :: v :: w :: st) ws Q X) : am l D aC own cc nL ret ini tb G rm mc ms k n pc L (v :: w :: st) ws Q X := by
  intro p e s m args below meth c A H locs ls S hl hP hD hS
  exact lv_dup2_11 S.1 S.2.1 hd hv hw (h p e s m args below meth c A H locs ls S hl hP hD hS)
theorem am_if_eq {x : Int32} {off : Int} (tgt : Nat) (hd : decode cc pc = .ok (.ifCond .eq off, 3)) (ht : (pc : Int) + off = (tgt : Int)) (kt : x = 0 → am l D aC own cc nL ret ini tb G rm mc ms k n tgt L st ws Q X) (kf : ¬ (x = 0) → am l D aC own cc nL ret ini tb G rm mc ms k n (pc + 3) L st ws Q X) : am l D aC own cc nL ret ini tb G rm mc ms k n pc L (.int x :: st) ws Q X := by
  intro p e s m args below meth c A H locs ls S hl hP hD hS
  exact lv_if_eq S.1 S.2.1 hd ht (fun h => kt h p e s m args below meth c A H locs ls S hl hP hD hS) (fun h => kf h p e s m args below meth c A H locs ls S hl hP hD hS)
theorem am_icmp_eq {x y : Int32} {off : Int} (tgt : Nat) (hd : decode cc pc = .ok (.if_icmp .eq off, 3)) (ht : (pc : Int) + off = (tgt : Int)) (kt : x = y → am l D aC own cc nL ret ini tb G rm mc ms k n tgt L st ws Q X) (kf : ¬ (x = y) → am l D aC own cc nL ret ini tb G rm mc ms k n (pc + 3) L st ws Q X) : am l D aC own cc nL ret ini tb G rm mc ms k n pc L (.int y :: .int x :: st) ws Q X := by
  intro p e s m args below meth c A H locs ls S hl hP hD hS
  exact lv_icmp_eq S.1 S.2.1 hd ht (fun h => kt h p e s m args below meth c A H locs ls S hl hP hD hS) (fun h => kf h p e s m args below meth c A H locs ls S hl hP hD hS)
theorem am_if_ne {x : Int32} {off : Int} (tgt : Nat) (hd : decode cc pc = .ok (.ifCond .ne off, 3)) (ht : (pc : Int) + off = (tgt : Int)) (kt : ¬ x = 0 → am l D aC own cc nL ret ini tb G rm mc ms k n tgt L st ws Q X) (kf : x = 0 → am l D aC own cc nL ret ini tb G rm mc ms k n (pc + 3) L st ws Q X) : am l D aC own cc nL ret ini tb G rm mc ms k n pc L (.int x :: st) ws Q X := by
  intro p e s m args below meth c A H locs ls S hl hP hD hS
  exact lv_if_ne S.1 S.2.1 hd ht (fun h => kt h p e s m args below meth c A H locs ls S hl hP hD hS) (fun h => kf h p e s m args below meth c A H locs ls S hl hP hD hS)
theorem am_icmp_ne {x y : Int32} {off : Int} (tgt : Nat) (hd : decode cc pc = .ok (.if_icmp .ne off, 3)) (ht : (pc : Int) + off = (tgt : Int)) (kt : ¬ x = y → am l D aC own cc nL ret ini tb G rm mc ms k n tgt L st ws Q X) (kf : x = y → am l D aC own cc nL ret ini tb G rm mc ms k n (pc + 3) L st ws Q X) : am l D aC own cc nL ret ini tb G rm mc ms k n pc L (.int y :: .int x :: st) ws Q X := by
  intro p e s m args below meth c A H locs ls S hl hP hD hS
  exact lv_icmp_ne S.1 S.2.1 hd ht (fun h => kt h p e s m args below meth c A H locs ls S hl hP hD hS) (fun h => kf h p e s m args below meth c A H locs ls S hl hP hD hS)
theorem am_if_lt {x : Int32} {off : Int} (tgt : Nat) (hd : decode cc pc = .ok (.ifCond .lt off, 3)) (ht : (pc : Int) + off = (tgt : Int)) (kt : x < 0 → am l D aC own cc nL ret ini tb G rm mc ms k n tgt L st ws Q X) (kf : ¬ (x < 0) → am l D aC own cc nL ret ini tb G rm mc ms k n (pc + 3) L st ws Q X) : am l D aC own cc nL ret ini tb G rm mc ms k n pc L (.int x :: st) ws Q X := by
  intro p e s m args below meth c A H locs ls S hl hP hD hS
  exact lv_if_lt S.1 S.2.1 hd ht (fun h => kt h p e s m args below meth c A H locs ls S hl hP hD hS) (fun h => kf h p e s m args below meth c A H locs ls S hl hP hD hS)
theorem am_icmp_lt {x y : Int32} {off : Int} (tgt : Nat) (hd : decode cc pc = .ok (.if_icmp .lt off, 3)) (ht : (pc : Int) + off = (tgt : Int)) (kt : x < y → am l D aC own cc nL ret ini tb G rm mc ms k n tgt L st ws Q X) (kf : ¬ (x < y) → am l D aC own cc nL ret ini tb G rm mc ms k n (pc + 3) L st ws Q X) : am l D aC own cc nL ret ini tb G rm mc ms k n pc L (.int y :: .int x :: st) ws Q X := by
  intro p e s m args below meth c A H locs ls S hl hP hD hS
  exact lv_icmp_lt S.1 S.2.1 hd ht (fun h => kt h p e s m args below meth c A H locs ls S hl hP hD hS) (fun h => kf h p e s m args below meth c A H locs ls S hl hP hD hS)
theorem am_if_ge {x : Int32} {off : Int} (tgt : Nat) (hd : decode cc pc = .ok (.ifCond .ge off, 3)) (ht : (pc : Int) + off = (tgt : Int)) (kt : 0 ≤ x → am l D aC own cc nL ret ini tb G rm mc ms k n tgt L st ws Q X) (kf : ¬ (0 ≤ x) → am l D aC own cc nL ret ini tb G rm mc ms k n (pc + 3) L st ws Q X) : am l D aC own cc nL ret ini tb G rm mc ms k n pc L (.int x :: st) ws Q X := by
  intro p e s m args below meth c A H locs ls S hl hP hD hS
  exact lv_if_ge S.1 S.2.1 hd ht (fun h => kt h p e s m args below meth c A H locs ls S hl hP hD hS) (fun h => kf h p e s m args below meth c A H locs ls S hl hP hD hS)
theorem am_icmp_ge {x y : Int32} {off : Int} (tgt : Nat) (hd : decode cc pc = .ok (.if_icmp .ge off, 3)) (ht : (pc : Int) + off = (tgt : Int)) (kt : y ≤ x → am l D aC own cc nL ret ini tb G rm mc ms k n tgt L st ws Q X) (kf : ¬ (y ≤ x) → am l D aC own cc nL ret ini tb G rm mc ms k n (pc + 3) L st ws Q X) : am l D aC own cc nL ret ini tb G rm mc ms k n pc L (.int y :: .int x :: st) ws Q X := by
  intro p e s m args below meth c A H locs ls S hl hP hD hS
  exact lv_icmp_ge S.1 S.2.1 hd ht (fun h => kt h p e s m args below meth c A H locs ls S hl hP hD hS) (fun h => kf h p e s m args below meth c A H locs ls S hl hP hD hS)
theorem am_if_gt {x : Int32} {off : Int} (tgt : Nat) (hd : decode cc pc = .ok (.ifCond .gt off, 3)) (ht : (pc : Int) + off = (tgt : Int)) (kt : 0 < x → am l D aC own cc nL ret ini tb G rm mc ms k n tgt L st ws Q X) (kf : ¬ (0 < x) → am l D aC own cc nL ret ini tb G rm mc ms k n (pc + 3) L st ws Q X) : am l D aC own cc nL ret ini tb G rm mc ms k n pc L (.int x :: st) ws Q X := by
  intro p e s m args below meth c A H locs ls S hl hP hD hS
  exact lv_if_gt S.1 S.2.1 hd ht (fun h => kt h p e s m args below meth c A H locs ls S hl hP hD hS) (fun h => kf h p e s m args below meth c A H locs ls S hl hP hD hS)
theorem am_icmp_gt {x y : Int32} {off : Int} (tgt : Nat) (hd : decode cc pc = .ok (.if_icmp .gt off, 3)) (ht : (pc : Int) + off = (tgt : Int)) (kt : y < x → am l D aC own cc nL ret ini tb G rm mc ms k n tgt L st ws Q X) (kf : ¬ (y < x) → am l D aC own cc nL ret ini tb G rm mc ms k n (pc + 3) L st ws Q X) : am l D aC own cc nL ret ini tb G rm mc ms k n pc L (.int y :: .int x :: st) ws Q X := by
  intro p e s m args below meth c A H locs ls S hl hP hD hS
  exact lv_icmp_gt S.1 S.2.1 hd ht (fun h => kt h p e s m args below meth c A H locs ls S hl hP hD hS) (fun h => kf h p e s m args below meth c A H locs ls S hl hP hD hS)
theorem am_if_le {x : Int32} {off : Int} (tgt : Nat) (hd : decode cc pc = .ok (.ifCond .le off, 3)) (ht : (pc : Int) + off = (tgt : Int)) (kt : x ≤ 0 → am l D aC own cc nL ret ini tb G rm mc ms k n tgt L st ws Q X) (kf : ¬ (x ≤ 0) → am l D aC own cc nL ret ini tb G rm mc ms k n (pc + 3) L st ws Q X) : am l D aC own cc nL ret ini tb G rm mc ms k n pc L (.int x :: st) ws Q X := by
  intro p e s m args below meth c A H locs ls S hl hP hD hS
  exact lv_if_le S.1 S.2.1 hd ht (fun h => kt h p e s m args below meth c A H locs ls S hl hP hD hS) (fun h => kf h p e s m args below meth c A H locs ls S hl hP hD hS)
theorem am_icmp_le {x y : Int32} {off : Int} (tgt : Nat) (hd : decode cc pc = .ok (.if_icmp .le off, 3)) (ht : (pc : Int) + off = (tgt : Int)) (kt : x ≤ y → am l D aC own cc nL ret ini tb G rm mc ms k n tgt L st ws Q X) (kf : ¬ (x ≤ y) → am l D aC own cc nL ret ini tb G rm mc ms k n (pc + 3) L st ws Q X) : am l D aC own cc nL ret ini tb G rm mc ms k n pc L (.int y :: .int x :: st) ws Q X := by
  intro p e s m args below meth c A H locs ls S hl hP hD hS
  exact lv_icmp_le S.1 S.2.1 hd ht (fun h => kt h p e s m args below meth c A H locs ls S hl hP hD hS) (fun h => kf h p e s m args below meth c A H locs ls S hl hP hD hS)
theorem am_goto {off : Int} (tgt : Nat) (hd : decode cc pc = .ok (.goto off, 3)) (ht : (pc : Int) + off = (tgt : Int)) (h : am l D aC own cc nL ret ini tb G rm mc ms k n tgt L st ws Q X) : am l D aC own cc nL ret ini tb G rm mc ms k n pc L st ws Q X := by
  intro p e s m args below meth c A H locs ls S hl hP hD hS
  exact lv_goto S.1 S.2.1 hd ht (h p e s m args below meth c A H locs ls S hl hP hD hS)
theorem am_get {C : String} {T : u_T} {N idx a : Nat} {fs : List Value} {v : Value} (q0 ci f : Nat) (hd : decode cc pc = .ok (.getfield idx, 3)) (hin : ∀ w ∈ u_ws C T N, w ∈ am_TW) (he : ws[q0]? = some (a, .inr (ci, fs))) (hc : am_cl[ci]? = some (C, T, N)) (hf : f < N) (hC : (T f).1 = C) (hlink : Cond.fieldLink own idx C (T f).2.1 (T f).2.2.1 ∈ am_TW) (hv : fs[f]? = some v) (h : am l D aC own cc nL ret ini tb G rm mc ms k n (pc + 3) L (v :: st) ws Q X) : am l D aC own cc nL ret ini tb G rm mc ms k n pc L (.ref a :: st) ws Q X := by
  intro p e s m args below meth c A H locs ls S hl hP hD hS
  exact va_get (C := C) (T := T) (N := N) S.1 S.2.1 S.2.2.2.2.1 hin S.2.2.2.1 S.2.2.2.2.2.2.2.2.2.1 hP q0 he hc f hf (S.2.2.2.2.1 _ hlink) (fun _ h9 => by rw [← hC]; exact h9) hv hd (h p e s m args below meth c A H locs ls S hl hP hD hS)
theorem am_getN {C : String} {T : u_T} {N idx a : Nat} {fs : List Value} {v : Value} {host : String} (q0 ci f : Nat) (hd : decode cc pc = .ok (.getfield idx, 3)) (hin : ∀ w ∈ u_ws C T N, w ∈ am_TW) (he : ws[q0]? = some (a, .inr (ci, fs))) (hc : am_cl[ci]? = some (C, T, N)) (hf : f < N) (hC : (T f).1 = C) (hlink : Cond.fieldLinkNest own idx C (T f).2.1 (T f).2.2.1 host ∈ am_TN) (hv : fs[f]? = some v) (h : am l D aC own cc nL ret ini tb G rm mc ms k n (pc + 3) L (v :: st) ws Q X) : am l D aC own cc nL ret ini tb G rm mc ms k n pc L (.ref a :: st) ws Q X := by
  intro p e s m args below meth c A H locs ls S hl hP hD hS
  exact va_getN (C := C) (T := T) (N := N) (host := host) S.1 S.2.1 S.2.2.2.2.1 hin S.2.2.2.1 S.2.2.2.2.2.2.2.2.2.1 hP q0 he hc f hf (va_Nw.use rfl (S.2.2.2.2.2.2.2.2.2.2.1.1 _ hlink)) (fun _ h9 => by rw [← hC]; exact h9) hv hd (h p e s m args below meth c A H locs ls S hl hP hD hS)
theorem am_put {C : String} {T : u_T} {N idx a : Nat} {fs : List Value} {v : Value} (q0 ci f : Nat) (hd : decode cc pc = .ok (.putfield idx, 3)) (hin : ∀ w ∈ u_ws C T N, w ∈ am_TW) (he : ws[q0]? = some (a, .inr (ci, fs))) (hc : am_cl[ci]? = some (C, T, N)) (hf : f < N) (ty0 : Nat → FieldType) (hty : ∀ k, k < N → parseFieldDescriptor (T k).2.2.1 = some (ty0 k)) (hnm : ∀ a, a < N → ∀ b, b < N → a ≠ b → (T a).2.1 ≠ (T b).2.1) (hC : (T f).1 = C) (hlink : Cond.fieldLink own idx C (T f).2.1 (T f).2.2.1 ∈ am_TW) (hfin : (T f).2.2.2 = false) (hn : narrow (ty0 f) v = v) (hfit : fits (ty0 f) v = true) (hl9 : f < fs.length) {ws2 : va_W} (hws : ws.set q0 (a, .inr (ci, fs.set f v)) = ws2) (h : am l D aC own cc nL ret ini tb G rm mc ms k n (pc + 3) L st ws2 Q X) : am l D aC own cc nL ret ini tb G rm mc ms k n pc L (v :: .ref a :: st) ws Q X := by
  intro p e s m args below meth c A H locs ls S hl hP hD hS
  refine va_put (C := C) (T := T) (N := N) S.1 S.2.1 S.2.2.2.2.1 hin ty0 hty hnm S.2.2.2.1 S.2.2.2.2.2.2.2.2.2.1 hP hD hS q0 he hc f hf (S.2.2.2.2.1 _ hlink) (fun _ h9 => by rw [← hC]; exact h9) hfin (hty f hf) hn hfit hl9 hd (fun H1 locs1 hP1 hD1 hS1 => ?_)
  rw [hws] at hP1 hD1
  exact h p e s m args below meth c A H1 locs1 ls S hl hP1 hD1 hS1
theorem am_putN {C : String} {T : u_T} {N idx a : Nat} {fs : List Value} {v : Value} {host : String} (q0 ci f : Nat) (hd : decode cc pc = .ok (.putfield idx, 3)) (hin : ∀ w ∈ u_ws C T N, w ∈ am_TW) (he : ws[q0]? = some (a, .inr (ci, fs))) (hc : am_cl[ci]? = some (C, T, N)) (hf : f < N) (ty0 : Nat → FieldType) (hty : ∀ k, k < N → parseFieldDescriptor (T k).2.2.1 = some (ty0 k)) (hnm : ∀ a, a < N → ∀ b, b < N → a ≠ b → (T a).2.1 ≠ (T b).2.1) (hC : (T f).1 = C) (hlink : Cond.fieldLinkNest own idx C (T f).2.1 (T f).2.2.1 host ∈ am_TN) (hfin : (T f).2.2.2 = false) (hn : narrow (ty0 f) v = v) (hfit : fits (ty0 f) v = true) (hl9 : f < fs.length) {ws2 : va_W} (hws : ws.set q0 (a, .inr (ci, fs.set f v)) = ws2) (h : am l D aC own cc nL ret ini tb G rm mc ms k n (pc + 3) L st ws2 Q X) : am l D aC own cc nL ret ini tb G rm mc ms k n pc L (v :: .ref a :: st) ws Q X := by
  intro p e s m args below meth c A H locs ls S hl hP hD hS
  refine va_putN (C := C) (T := T) (N := N) (host := host) S.1 S.2.1 S.2.2.2.2.1 hin ty0 hty hnm S.2.2.2.1 S.2.2.2.2.2.2.2.2.2.1 hP hD hS q0 he hc f hf (va_Nw.use rfl (S.2.2.2.2.2.2.2.2.2.2.1.1 _ hlink)) (fun _ h9 => by rw [← hC]; exact h9) hfin (hty f hf) hn hfit hl9 hd (fun H1 locs1 hP1 hD1 hS1 => ?_)
  rw [hws] at hP1 hD1
  exact h p e s m args below meth c A H1 locs1 ls S hl hP1 hD1 hS1
theorem am_putF {C : String} {T : u_T} {N idx a : Nat} {fs : List Value} {v : Value} (q0 ci f : Nat) (hd : decode cc pc = .ok (.putfield idx, 3)) (hin : ∀ w ∈ u_ws C T N, w ∈ am_TW) (he : ws[q0]? = some (a, .inr (ci, fs))) (hc : am_cl[ci]? = some (C, T, N)) (hf : f < N) (ty0 : Nat → FieldType) (hty : ∀ k, k < N → parseFieldDescriptor (T k).2.2.1 = some (ty0 k)) (hnm : ∀ a, a < N → ∀ b, b < N → a ≠ b → (T a).2.1 ≠ (T b).2.1) (hC : (T f).1 = C) (hlink : Cond.fieldLink own idx C (T f).2.1 (T f).2.2.1 ∈ am_TW) (hfin : (T f).2.2.2 = true) (hown9 : C = own) (hi9 : ini = true) (hn : narrow (ty0 f) v = v) (hfit : fits (ty0 f) v = true) (hl9 : f < fs.length) {ws2 : va_W} (hws : ws.set q0 (a, .inr (ci, fs.set f v)) = ws2) (h : am l D aC own cc nL ret ini tb G rm mc ms k n (pc + 3) L st ws2 Q X) : am l D aC own cc nL ret ini tb G rm mc ms k n pc L (v :: .ref a :: st) ws Q X := by
  intro p e s m args below meth c A H locs ls S hl hP hD hS
  refine va_putF (C := C) (T := T) (N := N) S.1 S.2.1 S.2.2.2.2.1 hin ty0 hty hnm S.2.2.2.1 S.2.2.2.2.2.2.2.2.2.1 hP hD hS q0 he hc f hf (S.2.2.2.2.1 _ hlink) (fun _ h9 => by rw [← hC]; exact h9) hfin (S.2.2.2.2.2.2.2.1 hi9) (hC.trans hown9) (hty f hf) hn hfit hl9 hd (fun H1 locs1 hP1 hD1 hS1 => ?_)
  rw [hws] at hP1 hD1
  exact h p e s m args below meth c A H1 locs1 ls S hl hP1 hD1 hS1
theorem am_iald {a N : Nat} {f : Nat → Int32} {i : Int32} (q0 : Nat) (hd : decode cc pc = .ok (.iaload, 1)) (ha : ws[q0]? = some (a, .inl (aC 0, N, .inl f))) (hin : vp_in i N) (h : am l D aC own cc nL ret ini tb G rm mc ms k n (pc + 1) L (.int (f i.toNatClampNeg) :: st) ws Q X) : am l D aC own cc nL ret ini tb G rm mc ms k n pc L (.int i :: .ref a :: st) ws Q X := by
  intro p e s m args below meth c A H locs ls S hl hP hD hS
  exact va_iald S.1 S.2.1 S.2.2.2.2.2.2.2.2.2.1 hP q0 0 ha rfl hin hd (h p e s m args below meth c A H locs ls S hl hP hD hS)
theorem am_zald {a N : Nat} {f : Nat → Int32} {i : Int32} (q0 : Nat) (hd : decode cc pc = .ok (.baload, 1)) (ha : ws[q0]? = some (a, .inl (aC 2, N, .inl f))) (hin : vp_in i N) (h : am l D aC own cc nL ret ini tb G rm mc ms k n (pc + 1) L (.int (f i.toNatClampNeg) :: st) ws Q X) : am l D aC own cc nL ret ini tb G rm mc ms k n pc L (.int i :: .ref a :: st) ws Q X := by
  intro p e s m args below meth c A H locs ls S hl hP hD hS
  exact va_zald S.1 S.2.1 S.2.2.2.2.2.2.2.2.2.1 hP q0 2 ha rfl hin hd (h p e s m args below meth c A H locs ls S hl hP hD hS)
theorem am_lald {a N : Nat} {f : Nat → Int64} {i : Int32} (q0 : Nat) (hd : decode cc pc = .ok (.laload, 1)) (ha : ws[q0]? = some (a, .inl (aC 1, N, .inr (.inl f)))) (hin : vp_in i N) (h : am l D aC own cc nL ret ini tb G rm mc ms k n (pc + 1) L (.long (f i.toNatClampNeg) :: st) ws Q X) : am l D aC own cc nL ret ini tb G rm mc ms k n pc L (.int i :: .ref a :: st) ws Q X := by
  intro p e s m args below meth c A H locs ls S hl hP hD hS
  exact va_lald S.1 S.2.1 S.2.2.2.2.2.2.2.2.2.1 hP q0 1 ha rfl hin hd (h p e s m args below meth c A H locs ls S hl hP hD hS)
theorem am_iast {a N : Nat} {f : Nat → Int32} {i : Int32} {x : Int32} (q0 : Nat) (hd : decode cc pc = .ok (.iastore, 1)) (ha : ws[q0]? = some (a, .inl (aC 0, N, .inl f))) (hin : vp_in i N) {ws2 : va_W} (hws : ws.set q0 (a, .inl (aC 0, N, .inl (upd f i.toNatClampNeg x))) = ws2) (h : am l D aC own cc nL ret ini tb G rm mc ms k n (pc + 1) L st ws2 Q X) : am l D aC own cc nL ret ini tb G rm mc ms k n pc L (.int x :: .int i :: .ref a :: st) ws Q X := by
  intro p e s m args below meth c A H locs ls S hl hP hD hS
  refine va_iast S.1 S.2.1 S.2.2.2.2.2.2.2.2.2.1 hP hD hS q0 0 ha rfl hin hd (fun H1 locs1 hP1 hD1 hS1 => ?_)
  rw [hws] at hP1 hD1
  exact h p e s m args below meth c A H1 locs1 ls S hl hP1 hD1 hS1
theorem am_zast {a N : Nat} {f : Nat → Int32} {i : Int32} {x : Int32} (q0 : Nat) (hd : decode cc pc = .ok (.bastore, 1)) (ha : ws[q0]? = some (a, .inl (aC 2, N, .inl f))) (hin : vp_in i N) {ws2 : va_W} (hws : ws.set q0 (a, .inl (aC 2, N, .inl (upd f i.toNatClampNeg (vp_nar .boolean x)))) = ws2) (h : am l D aC own cc nL ret ini tb G rm mc ms k n (pc + 1) L st ws2 Q X) : am l D aC own cc nL ret ini tb G rm mc ms k n pc L (.int x :: .int i :: .ref a :: st) ws Q X := by
  intro p e s m args below meth c A H locs ls S hl hP hD hS
  refine va_zast S.1 S.2.1 S.2.2.2.2.2.2.2.2.2.1 hP hD hS q0 2 ha rfl hin hd (fun H1 locs1 hP1 hD1 hS1 => ?_)
  rw [hws] at hP1 hD1
  exact h p e s m args below meth c A H1 locs1 ls S hl hP1 hD1 hS1
theorem am_last {a N : Nat} {f : Nat → Int64} {i : Int32} {x : Int64} (q0 : Nat) (hd : decode cc pc = .ok (.lastore, 1)) (ha : ws[q0]? = some (a, .inl (aC 1, N, .inr (.inl f)))) (hin : vp_in i N) {ws2 : va_W} (hws : ws.set q0 (a, .inl (aC 1, N, .inr (.inl (vp_updL f i.toNatClampNeg x)))) = ws2) (h : am l D aC own cc nL ret ini tb G rm mc ms k n (pc + 1) L st ws2 Q X) : am l D aC own cc nL ret ini tb G rm mc ms k n pc L (.long x :: .int i :: .ref a :: st) ws Q X := by
  intro p e s m args below meth c A H locs ls S hl hP hD hS
  refine va_last S.1 S.2.1 S.2.2.2.2.2.2.2.2.2.1 hP hD hS q0 1 ha rfl hin hd (fun H1 locs1 hP1 hD1 hS1 => ?_)
  rw [hws] at hP1 hD1
  exact h p e s m args below meth c A H1 locs1 ls S hl hP1 hD1 hS1
theorem am_aald {a N t0 : Nat} {C : String} {cA : ClassId} {f : Nat → Option Nat} {i : Int32} (q0 : Nat) (hd : decode cc pc = .ok (.aaload, 1)) (ha : ws[q0]? = some (a, .inl (cA, N, .inr (.inr (.inr (.inr f)))))) (ht : (am_ty aC)[t0]? = some (cA, .object C)) (hin : vp_in i N) (h : am l D aC own cc nL ret ini tb G rm mc ms k n (pc + 1) L (va_rf (f i.toNatClampNeg) :: st) ws Q X) : am l D aC own cc nL ret ini tb G rm mc ms k n pc L (.int i :: .ref a :: st) ws Q X := by
  intro p e s m args below meth c A H locs ls S hl hP hD hS
  exact va_aldq S.1 S.2.1 S.2.2.2.2.2.2.2.2.2.1 hP q0 t0 ha ht hin hd (h p e s m args below meth c A H locs ls S hl hP hD hS)
theorem am_aast {a N v q1 ci t0 : Nat} {C : String} {cA : ClassId} {T : u_T} {N1 : Nat} {vs : List Value} {f : Nat → Option Nat} {i : Int32} (q0 : Nat) (hd : decode cc pc = .ok (.aastore, 1)) (ha : ws[q0]? = some (a, .inl (cA, N, .inr (.inr (.inr (.inr f)))))) (ht : (am_ty aC)[t0]? = some (cA, .object C)) (hv : ws[q1]? = some (v, .inr (ci, vs))) (hc : am_cl[ci]? = some (C, T, N1)) (hin : vp_in i N) {ws2 : va_W} (hws : ws.set q0 (a, .inl (cA, N, .inr (.inr (.inr (.inr (va_up f i.toNatClampNeg (some v))))))) = ws2) (h : am l D aC own cc nL ret ini tb G rm mc ms k n (pc + 1) L st ws2 Q X) : am l D aC own cc nL ret ini tb G rm mc ms k n pc L (.ref v :: .int i :: .ref a :: st) ws Q X := by
  intro p e s m args below meth c A H locs ls S hl hP hD hS
  refine va_astq S.1 S.2.1 S.2.2.2.2.2.2.2.2.2.1 hP hD hS q0 t0 q1 ci ha ht hv hc hin hd (fun H1 locs1 hP1 hD1 hS1 => ?_)
  rw [hws] at hP1 hD1
  exact h p e s m args below meth c A H1 locs1 ls S hl hP1 hD1 hS1
theorem am_iret {x : Int32} (hd : decode cc pc = .ok (.ireturn, 1)) (hr : ret = some .int) (hc : k ≤ mc) (hs : n ≤ ms) (hq : Q (some (.int x)) ws) : am l D aC own cc nL ret ini tb G rm mc ms k n pc L [.int x] ws Q X := by
  intro p e s m args below meth c A H locs ls S hl hP hD hS
  refine am_ret (W.widen hc hs ?_)
  exact W.iret S.1 S.2.1 (S.2.2.2.2.2.1.trans hr) (fun t ht hW => ⟨⟨_, ws, rfl, hq, by rw [ht]; exact hP, hD⟩, hS.F ht⟩) hS.2.2 hd S.2.2.2.2.2.2.1
theorem am_lret {x : Int64} (hd : decode cc pc = .ok (.lreturn, 1)) (hr : ret = some .long) (hc : k ≤ mc) (hs : n ≤ ms) (hq : Q (some (.long x)) ws) : am l D aC own cc nL ret ini tb G rm mc ms k n pc L [.long x] ws Q X := by
  intro p e s m args below meth c A H locs ls S hl hP hD hS
  refine am_ret (W.widen hc hs ?_)
  exact W.lret S.1 S.2.1 (S.2.2.2.2.2.1.trans hr) (fun t ht hW => ⟨⟨_, ws, rfl, hq, by rw [ht]; exact hP, hD⟩, hS.F ht⟩) hS.2.2 hd S.2.2.2.2.2.2.1
theorem am_zret {x : Int32} (hd : decode cc pc = .ok (.ireturn, 1)) (hr : ret = some .boolean) (hc : k ≤ mc) (hs : n ≤ ms) (hx : x = 0 ∨ x = 1) (hq : Q (some (.int x)) ws) : am l D aC own cc nL ret ini tb G rm mc ms k n pc L [.int x] ws Q X := by
  intro p e s m args below meth c A H locs ls S hl hP hD hS
  refine am_ret (W.widen hc hs ?_)
  exact W.zret (ty := .boolean) S.1 S.2.1 (S.2.2.2.2.2.1.trans hr) (by rcases hx with rfl | rfl <;> rfl) (fun t ht hW => ⟨⟨_, ws, rfl, hq, by rw [ht]; exact hP, hD⟩, hS.F ht⟩) hS.2.2 hd S.2.2.2.2.2.2.1
theorem am_aret {x : Nat} {C : String} (hd : decode cc pc = .ok (.areturn, 1)) (hr : ret = some (.object C)) (hc : k ≤ mc) (hs : n ≤ ms) (hq : Q (some (.ref x)) ws) : am l D aC own cc nL ret ini tb G rm mc ms k n pc L [.ref x] ws Q X := by
  intro p e s m args below meth c A H locs ls S hl hP hD hS
  refine am_ret (W.widen hc hs ?_)
  exact W.aret S.1 S.2.1 (S.2.2.2.2.2.1.trans hr) (Or.inl ⟨C, rfl⟩) (Or.inr ⟨x, rfl⟩) (fun t ht hW => ⟨⟨_, ws, rfl, hq, by rw [ht]; exact hP, hD⟩, hS.F ht⟩) hS.2.2 hd S.2.2.2.2.2.2.1
theorem am_vret (hd : decode cc pc = .ok (.return_, 1)) (hr : ret = none) (hc : k ≤ mc) (hs : n ≤ ms) (hq : Q none ws) : am l D aC own cc nL ret ini tb G rm mc ms k n pc L [] ws Q X := by
  intro p e s m args below meth c A H locs ls S hl hP hD hS
  refine am_ret (W.widen hc hs ?_)
  exact W.vret S.1 S.2.1 (S.2.2.2.2.2.1.trans hr) (fun t ht hW => ⟨⟨_, ws, rfl, hq, by rw [ht]; exact hP, hD⟩, hS.F ht⟩) hS.2.2 hd S.2.2.2.2.2.2.1
theorem am_sub {L2 : List (Nat × Value)} (is : List Nat) (hL : lv_pick L is = L2) (h : am l D aC own cc nL ret ini tb G rm mc ms k n pc L2 st ws Q X) : am l D aC own cc nL ret ini tb G rm mc ms k n pc L st ws Q X := by
  intro p e s m args below meth c A H locs ls S hl hP hD hS
  exact h p e s m args below meth c A H locs ls S (lv_sub hl is hL) hP hD hS
theorem am_widen {k2 n2 : Nat} (h1 : k ≤ k2) (h2 : n ≤ n2) (h : am l D aC own cc nL ret ini tb G rm mc ms k2 n2 pc L st ws Q X) : am l D aC own cc nL ret ini tb G rm mc ms k n pc L st ws Q X := by
  intro p e s m args below meth c A H locs ls S hl hP hD hS
  exact W.widen h1 h2 (h p e s m args below meth c A H locs ls S hl hP hD hS)
theorem am_objInit {idx a : Nat} (hd : decode cc pc = .ok (.invokespecial idx, 3)) (hlink : Cond.methodLink own idx objectInit ∈ am_TW) (hinst : Cond.instanceMethod objectInit ∈ am_TW) (hcode : Cond.code objectInit ⟨#[0xb1]⟩ 1 none ∈ am_TW) (hf : 1 ≤ rm.frames) (hlo : (st.map fun v => v.category).sum + 12 ≤ rm.locals) (h : am l D aC own cc nL ret ini tb G rm mc ms k n (pc + 3) L st ws Q X) : am l D aC own cc nL ret ini tb G rm mc ms k n pc L (.ref a :: st) ws Q X := by
  intro p e s m args below meth c A H locs ls S hl hP hD hS
  refine W.objInit S.1 S.2.1 S.2.2.2.1 (S.2.2.2.2.1 _ hlink) (S.2.2.2.2.1 _ hinst) (S.2.2.2.2.1 _ hcode) rfl (hl.1.trans S.2.2.1.symm) rfl hd hf (by show 2 * 0 + _ + 12 ≤ _; omega) ?_
  exact h p e s m args below meth c A H locs ls S hl hP hD hS
theorem am_new {C : String} {T : u_T} {N idx : Nat} {fs : List Value} (ci : Nat) (hd : decode cc pc = .ok (.new idx, 3)) (hin : ∀ w ∈ u_ws C T N, w ∈ am_TW) (ty : Nat → FieldType) (hty : ∀ k, k < N → parseFieldDescriptor (T k).2.2.1 = some (ty k)) (hcl : Cond.classLink own idx C ∈ am_TW) (hinst : Cond.instantiable C N ∈ am_TW) (hini : Cond.initialized C ∈ am_TW) (hc : am_cl[ci]? = some (C, T, N)) (hfs : ∀ j, j < N → defaultValue (ty j) = vp_V fs j) (hk : k + 1 ≤ rm.cells ∧ n + N ≤ rm.slots) (h : ∀ q, am l D aC own cc nL ret ini tb G rm mc ms (k + 1) (n + N) (pc + 3) L (.ref q :: st) (ws ++ [(q, .inr (ci, fs))]) Q X) : am l D aC own cc nL ret ini tb G rm mc ms k n pc L st ws Q X := by
  intro p e s m args below meth c A H locs ls S hl hP hD hS
  exact va_new (c0 := c) S.1 S.2.1 S.2.2.2.2.1 hin ty hty S.2.2.2.1 (S.2.2.2.2.1 _ hcl) (S.2.2.2.2.1 _ hinst) (S.2.2.2.2.1 _ hini) S.2.2.2.2.2.2.2.2.2.1 hP hD hS S.2.2.2.2.2.2.2.2.2.2.2.2.1 hc hfs hk.1 hk.2 hd (fun q H1 hP1 hD1 hS1 => h q p e s m args below meth c A H1 locs ls S hl hP1 hD1 hS1)
theorem am_newa0 {i : Int32} {N : Nat} (hd : decode cc pc = .ok (.newarray .int, 2)) (harr : Cond.arrayClass .int ∈ am_TW) (hn : ¬ i < 0) (hN : i.toNatClampNeg = N) (hb9 : N * 8 ≤ 536870912) (hk : k + 1 ≤ rm.cells ∧ n + N ≤ rm.slots) (h : ∀ q, am l D aC own cc nL ret ini tb G rm mc ms (k + 1) (n + N) (pc + 2) L (.ref q :: st) (ws ++ [(q, .inl (aC 0, N, .inl (fun _ => 0)))]) Q X) : am l D aC own cc nL ret ini tb G rm mc ms k n pc L (.int i :: st) ws Q X := by
  intro p e s m args below meth c A H locs ls S hl hP hD hS
  refine va_newa (atype := .int) (a0 := (N, .inl (fun _ => 0))) S.1 S.2.1 (S.2.2.2.2.1 _ harr) rfl S.2.2.2.2.2.2.2.2.2.1 hP hD hS S.2.2.2.2.2.2.2.2.2.2.2.2.1 (fun cA => rfl) hn hN (Nat.le_trans (Nat.mul_le_mul_left N (by decide)) hb9) hk.1 hk.2 hd (fun q cA H1 hK1 hP1 hD1 hS1 => ?_)
  have e1 : some cA = some (aC 0) := ((hK1.2 5 (cA, .int) rfl).2).symm.trans ((S.2.2.2.2.2.2.2.2.2.1).2 0 (aC 0, .int) rfl).2
  cases e1
  exact h q p e s m args below meth c A H1 locs ls S hl hP1 hD1 hS1
theorem am_newa1 {i : Int32} {N : Nat} (hd : decode cc pc = .ok (.newarray .long, 2)) (harr : Cond.arrayClass .long ∈ am_TW) (hn : ¬ i < 0) (hN : i.toNatClampNeg = N) (hb9 : N * 8 ≤ 536870912) (hk : k + 1 ≤ rm.cells ∧ n + N ≤ rm.slots) (h : ∀ q, am l D aC own cc nL ret ini tb G rm mc ms (k + 1) (n + N) (pc + 2) L (.ref q :: st) (ws ++ [(q, .inl (aC 1, N, .inr (.inl (fun _ => 0))))]) Q X) : am l D aC own cc nL ret ini tb G rm mc ms k n pc L (.int i :: st) ws Q X := by
  intro p e s m args below meth c A H locs ls S hl hP hD hS
  refine va_newa (atype := .long) (a0 := (N, .inr (.inl (fun _ => 0)))) S.1 S.2.1 (S.2.2.2.2.1 _ harr) rfl S.2.2.2.2.2.2.2.2.2.1 hP hD hS S.2.2.2.2.2.2.2.2.2.2.2.2.1 (fun cA => rfl) hn hN (Nat.le_trans (Nat.mul_le_mul_left N (by decide)) hb9) hk.1 hk.2 hd (fun q cA H1 hK1 hP1 hD1 hS1 => ?_)
  have e1 : some cA = some (aC 1) := ((hK1.2 5 (cA, .long) rfl).2).symm.trans ((S.2.2.2.2.2.2.2.2.2.1).2 1 (aC 1, .long) rfl).2
  cases e1
  exact h q p e s m args below meth c A H1 locs ls S hl hP1 hD1 hS1
theorem am_newa2 {i : Int32} {N : Nat} (hd : decode cc pc = .ok (.newarray .boolean, 2)) (harr : Cond.arrayClass .boolean ∈ am_TW) (hn : ¬ i < 0) (hN : i.toNatClampNeg = N) (hb9 : N * 8 ≤ 536870912) (hk : k + 1 ≤ rm.cells ∧ n + N ≤ rm.slots) (h : ∀ q, am l D aC own cc nL ret ini tb G rm mc ms (k + 1) (n + N) (pc + 2) L (.ref q :: st) (ws ++ [(q, .inl (aC 2, N, .inl (fun _ => 0)))]) Q X) : am l D aC own cc nL ret ini tb G rm mc ms k n pc L (.int i :: st) ws Q X := by
  intro p e s m args below meth c A H locs ls S hl hP hD hS
  refine va_newa (atype := .boolean) (a0 := (N, .inl (fun _ => 0))) S.1 S.2.1 (S.2.2.2.2.1 _ harr) rfl S.2.2.2.2.2.2.2.2.2.1 hP hD hS S.2.2.2.2.2.2.2.2.2.2.2.2.1 (fun cA => rfl) hn hN (Nat.le_trans (Nat.mul_le_mul_left N (by decide)) hb9) hk.1 hk.2 hd (fun q cA H1 hK1 hP1 hD1 hS1 => ?_)
  have e1 : some cA = some (aC 2) := ((hK1.2 5 (cA, .boolean) rfl).2).symm.trans ((S.2.2.2.2.2.2.2.2.2.1).2 2 (aC 2, .boolean) rfl).2
  cases e1
  exact h q p e s m args below meth c A H1 locs ls S hl hP1 hD1 hS1
theorem am_newq {C : String} {idx t0 N : Nat} {cA0 : ClassId} {i : Int32} (hd : decode cc pc = .ok (.anewarray idx, 3)) (hcl : Cond.classLink own idx C ∈ am_TW) (hA9 : C ∈ am_TA) (ht : (am_ty aC)[t0]? = some (cA0, .object C)) (hn : ¬ i < 0) (hN : i.toNatClampNeg = N) (hb9 : N * 4 ≤ 536870912) (hk : k + 1 ≤ rm.cells ∧ n + N ≤ rm.slots) (h : ∀ q, am l D aC own cc nL ret ini tb G rm mc ms (k + 1) (n + N) (pc + 3) L (.ref q :: st) (ws ++ [(q, .inl (cA0, N, .inr (.inr (.inr (.inr (fun _ => none))))))]) Q X) : am l D aC own cc nL ret ini tb G rm mc ms k n pc L (.int i :: st) ws Q X := by
  intro p e s m args below meth c A H locs ls S hl hP hD hS
  refine va_newq S.1 S.2.1 S.2.2.2.1 (S.2.2.2.2.1 _ hcl) (S.2.2.2.2.2.2.2.2.2.2.1.2.2.2 _ hA9) S.2.2.2.2.2.2.2.2.2.1 hP hD hS S.2.2.2.2.2.2.2.2.2.2.2.2.1 hn hN hb9 hk.1 hk.2 hd (fun q cA H1 hK1 hP1 hD1 hS1 => ?_)
  obtain ⟨-, kA, comp, -, -, -, f4⟩ := hK1.2 5 (cA, .object C) rfl
  obtain ⟨-, kB, comp2, -, -, -, g4⟩ := (S.2.2.2.2.2.2.2.2.2.1).2 t0 (cA0, .object C) ht
  have e1 : some cA = some cA0 := f4.symm.trans g4
  cases e1
  exact h q p e s m args below meth c A H1 locs ls S hl hP1 hD1 hS1
end AMR
abbrev am_MI : Type := Nat → Nat → Int32
abbrev am_MJ : Type := Nat → Nat → Int64
def am_cell (ad : Nat → Nat) (aC : Nat → ClassId) (k : Nat) (i : Nat → Int32) (j : Nat → Int64) : va_E := match k with
  | 0 => .inr (0, [.ref (ad 1), .ref (ad 4), .ref (ad 17), .ref (ad 23), .int (i 4), .int (i 5), .int (i 6), .int (i 7)])
  | 1 => .inr (1, [.ref (ad 2), .ref (ad 3), .int (i 2), .int (i 3), .long (j 4)])
  | 2 => .inl (aC 1, 101, .inr (.inl j))
  | 3 => .inl (aC 2, 69, .inl i)
  | 4 => .inr (2, [.ref (ad 5), .ref (ad 14), .ref (ad 15), .ref (ad 16)])
  | 5 => .inl (aC 3, 8, .inr (.inr (.inr (.inr (fun q => if q < 8 then some (ad (6 + q)) else none)))))
  | 6 => .inr (3, [.int (i 0), .int (i 1), .int (i 2), .int (i 3), .long (j 4), .int (i 5)])
  | 7 => .inr (3, [.int (i 0), .int (i 1), .int (i 2), .int (i 3), .long (j 4), .int (i 5)])
  | 8 => .inr (3, [.int (i 0), .int (i 1), .int (i 2), .int (i 3), .long (j 4), .int (i 5)])
  | 9 => .inr (3, [.int (i 0), .int (i 1), .int (i 2), .int (i 3), .long (j 4), .int (i 5)])
  | 10 => .inr (3, [.int (i 0), .int (i 1), .int (i 2), .int (i 3), .long (j 4), .int (i 5)])
  | 11 => .inr (3, [.int (i 0), .int (i 1), .int (i 2), .int (i 3), .long (j 4), .int (i 5)])
  | 12 => .inr (3, [.int (i 0), .int (i 1), .int (i 2), .int (i 3), .long (j 4), .int (i 5)])
  | 13 => .inr (3, [.int (i 0), .int (i 1), .int (i 2), .int (i 3), .long (j 4), .int (i 5)])
  | 14 => .inl (aC 0, 101, .inl i)
  | 15 => .inl (aC 2, 101, .inl i)
  | 16 => .inl (aC 2, 101, .inl i)
  | 17 => .inr (5, [.ref (ad 18), .ref (ad 19), .ref (ad 20), .ref (ad 21), .ref (ad 22), .int (i 5), .int (i 6)])
  | 18 => .inl (aC 0, 16, .inl i)
  | 19 => .inl (aC 2, 16, .inl i)
  | 20 => .inl (aC 1, 16, .inr (.inl j))
  | 21 => .inl (aC 2, 16, .inl i)
  | 22 => .inl (aC 1, 16, .inr (.inl j))
  | 23 => .inl (aC 4, 2, .inr (.inr (.inr (.inr (fun q => if q < 2 then some (ad (24 + 2 * q)) else none)))))
  | 24 => .inr (4, [.ref (ad 25)])
  | 25 => .inl (aC 1, 20, .inr (.inl j))
  | 26 => .inr (4, [.ref (ad 27)])
  | 27 => .inl (aC 1, 20, .inr (.inl j))
  | 28 => .inr (6, [.int (i 0), .ref (ad 29), .int (i 2), .ref (ad 30), .int (i 4), .long (j 5), .int (i 6), .int (i 7), .int (i 8), .ref (ad 31), .ref (ad 32), .ref (ad 33), .ref (ad 34), .ref (ad 35), .ref (ad 36), .int (i 15), .int (i 16), .ref (ad 37), .ref (ad 38), .ref (ad 39), .int (i 20), .ref (ad 40), .ref (ad 41), .ref (ad 42), .ref (ad 43), .int (i 25), .ref (ad 44)])
  | 29 => .inl (aC 2, 69, .inl i)
  | 30 => .inl (aC 1, 101, .inr (.inl j))
  | 31 => .inl (aC 0, 8, .inl i)
  | 32 => .inl (aC 0, 8, .inl i)
  | 33 => .inl (aC 0, 512, .inl i)
  | 34 => .inl (aC 0, 8, .inl i)
  | 35 => .inl (aC 1, 8, .inr (.inl j))
  | 36 => .inl (aC 2, 8, .inl i)
  | 37 => .inl (aC 2, 101, .inl i)
  | 38 => .inl (aC 0, 160, .inl i)
  | 39 => .inl (aC 0, 101, .inl i)
  | 40 => .inl (aC 0, 16, .inl i)
  | 41 => .inl (aC 2, 16, .inl i)
  | 42 => .inl (aC 1, 16, .inr (.inl j))
  | 43 => .inl (aC 2, 16, .inl i)
  | 44 => .inl (aC 1, 16, .inr (.inl j))
  | _ => .inl (aC 1, 1, .inr (.inl j))
/-- the world: both sides' cells, and the law's array -/
def am_w (ad : Nat → Nat) (aC : Nat → ClassId) (I : am_MI) (J : am_MJ) : va_W := (List.range 46).map fun k => (ad k, am_cell ad aC k (I k) (J k))
def am_ui (I : am_MI) (k f : Nat) (v : Int32) : am_MI := fun k' => if k' = k then upd (I k) f v else I k'
def am_uj (J : am_MJ) (k f : Nat) (v : Int64) : am_MJ := fun k' => if k' = k then vp_updL (J k) f v else J k'
theorem am_w_at (ad : Nat → Nat) (aC : Nat → ClassId) (I : am_MI) (J : am_MJ) {k : Nat} (hk : k < 46) : (am_w ad aC I J)[k]? = some (ad k, am_cell ad aC k (I k) (J k)) := by
  unfold am_w
  rw [List.getElem?_map, List.getElem?_range hk]
  rfl
theorem am_w_set (ad : Nat → Nat) (aC : Nat → ClassId) (I I' : am_MI) (J J' : am_MJ) {k : Nat} (hk : k < 46) (hI : ∀ q, q ≠ k → I' q = I q) (hJ : ∀ q, q ≠ k → J' q = J q) : (am_w ad aC I J).set k (ad k, am_cell ad aC k (I' k) (J' k)) = am_w ad aC I' J' := by
  apply List.ext_getElem?
  intro q
  rw [List.getElem?_set]
  by_cases h : k = q
  · subst h
    rw [if_pos rfl, am_w_at ad aC I' J' hk, if_pos (by simpa [am_w] using hk)]
  · rw [if_neg h]
    by_cases hq : q < 46
    · rw [am_w_at ad aC I J hq, am_w_at ad aC I' J' hq, hI q (fun e => h e.symm), hJ q (fun e => h e.symm)]
    · rw [List.getElem?_eq_none (by simpa [am_w] using hq), List.getElem?_eq_none (by simpa [am_w] using hq)]
theorem am_w_seti (ad : Nat → Nat) (aC : Nat → ClassId) (I : am_MI) (J : am_MJ) {k f : Nat} {v : Int32} (hk : k < 46) : (am_w ad aC I J).set k (ad k, am_cell ad aC k (upd (I k) f v) (J k)) = am_w ad aC (am_ui I k f v) J := by
  have h := am_w_set ad aC I (am_ui I k f v) J J hk (fun q hq => by unfold am_ui; rw [if_neg hq]) (fun _ _ => rfl)
  rw [show am_ui I k f v k = upd (I k) f v by unfold am_ui; rw [if_pos rfl]] at h
  exact h
theorem am_w_setj (ad : Nat → Nat) (aC : Nat → ClassId) (I : am_MI) (J : am_MJ) {k f : Nat} {v : Int64} (hk : k < 46) : (am_w ad aC I J).set k (ad k, am_cell ad aC k (I k) (vp_updL (J k) f v)) = am_w ad aC I (am_uj J k f v) := by
  have h := am_w_set ad aC I I J (am_uj J k f v) hk (fun _ _ => rfl) (fun q hq => by unfold am_uj; rw [if_neg hq])
  rw [show am_uj J k f v k = vp_updL (J k) f v by unfold am_uj; rw [if_pos rfl]] at h
  exact h
theorem am_lt {x : Int32} {n : Nat} (h : vp_in x n) : x.toNatClampNeg < n := Nat.not_le.mp fun q => h (Or.inr q)
def am_li (ad : Nat → Nat) (aC : Nat → ClassId) (K : Int32 → am_MI → am_MJ → Prop) : Option Value → va_W → Prop := fun v ws => ∃ (r : Int32) (I : am_MI) (J : am_MJ), v = some (.int r) ∧ ws = am_w ad aC I J ∧ K r I J
def am_ll (ad : Nat → Nat) (aC : Nat → ClassId) (K : Int64 → am_MI → am_MJ → Prop) : Option Value → va_W → Prop := fun v ws => ∃ (r : Int64) (I : am_MI) (J : am_MJ), v = some (.long r) ∧ ws = am_w ad aC I J ∧ K r I J
def am_lv (ad : Nat → Nat) (aC : Nat → ClassId) (K : am_MI → am_MJ → Prop) : Option Value → va_W → Prop := fun v ws => ∃ (I : am_MI) (J : am_MJ), v = none ∧ ws = am_w ad aC I J ∧ K I J
def am_le (ad : Nat → Nat) (aC : Nat → ClassId) (K : Nat → am_MI → am_MJ → Prop) : Option Value → va_W → Prop := fun v ws => ∃ (e : Nat) (I : am_MI) (J : am_MJ), e < 8 ∧ v = some (.ref (ad (6 + e))) ∧ ws = am_w ad aC I J ∧ K e I J
def am_lx (ad : Nat → Nat) (aC : Nat → ClassId) (X : String → am_MI → am_MJ → Prop) : String → va_W → Prop := fun E ws => ∃ (I : am_MI) (J : am_MJ), ws = am_w ad aC I J ∧ X E I J
def am_rm (d : Nat) : Room := { frames := d, cells := 1, slots := 6, locals := 38 * d }
def am_rw (d : Nat) : Room := { frames := d, cells := 2, slots := 12, locals := 38 * d }
section AMT
variable {l : Launch} {D : va_G} {aC : Nat → ClassId} {own : String} {cc : ByteArray} {nL : Nat} {ret : Option FieldType} {ini : Bool} {tb : List (Nat × Nat × Nat × Nat)} {G : State → (Nat → Prop) → Prop} {rm : Room} {mc ms k n pc : Nat} {L : List (Nat × Value)} {st : List Value} {ws : va_W} {Q : Option Value → va_W → Prop} {X : String → va_W → Prop}
theorem am_nk_ot {w : Cond} (hk : am_nk w = true) : w.onTables = true := by
  cases w <;> first | rfl | (exact absurd hk (by simp [am_nk]))
theorem am_split {ws : List Cond} (h : ws.all (fun w => decide (w ∈ lw_tbl) && (goodWord w || am_nk w)) = true) : ∀ w ∈ ws, w ∈ am_TW ∨ w ∈ am_TN := by
  intro w hw
  have h1 := List.all_eq_true.mp h w hw
  simp only [Bool.and_eq_true, decide_eq_true_eq, Bool.or_eq_true] at h1
  exact h1.2.imp (fun h => List.mem_filter.mpr ⟨h1.1, h⟩) (fun h => List.mem_filter.mpr ⟨h1.1, h⟩)
/-- throw new E("text") -/
theorem am_throwS {cls text : String} {names : List String} {ik is ic : Nat} (d0 : decode cc pc = .ok (.new ik, 3)) (d3 : decode cc (pc + 3) = .ok (.dup, 1)) (d4 : decode cc (pc + 4) = .ok (.ldc is, 2)) (d6 : decode cc (pc + 6) = .ok (.invokespecial ic, 3)) (d9 : decode cc (pc + 9) = .ok (.athrow, 1))
    (hcls : Bundle.fit cls = true) (hnames : ∀ n ∈ names, Bundle.fit n = true) (hk : Cond.classLink own ik cls ∈ am_TW) (hini : Cond.initialized cls ∈ am_TW) (hstr : (own, is, text) ∈ am_TS) (hat : ∀ w ∈ vx_atS own ic cls names, w ∈ am_TW ∨ w ∈ am_TN)
    (hRf : names.length + 3 < rm.frames) (hRl : (st.map fun v => v.category).sum + (13 * (names.length + 1) + 43) ≤ rm.locals) (hRc : k + 1 ≤ rm.cells ∧ n + 6 ≤ rm.slots) (hm : k ≤ mc ∧ n ≤ ms) (hout : ∀ x ∈ tableOf tb, covers x (pc + 9) = false)
    (hx : X cls ws) : am l D aC own cc nL ret ini tb G rm mc ms k n pc L st ws Q X := by
  intro p e s m args below meth c A H locs ls S hl hP hD hS
  obtain ⟨hx9, hb, hml, hown, hts, hret, hlk, hin, htb, hK, hN, hZ, hA, hlt, hG⟩ := S
  obtain ⟨sa, hsa⟩ := hN.2.1 _ hstr
  have hgood : ∀ w ∈ Cond.classLink own ik cls :: Cond.initialized cls :: vx_atS own ic cls names, vx_ot w = true := by
    have hg : ∀ w ∈ am_TW, vx_ot w = true := fun w h => by simp [vx_ot, am_TW_g w h]
    have hn : ∀ w ∈ am_TN, vx_ot w = true := fun w h => by simp [vx_ot, am_nk_ot (am_TN_k w h)]
    intro w hw
    rcases List.mem_cons.mp hw with rfl | hw
    · exact hg _ hk
    rcases List.mem_cons.mp hw with rfl | hw
    · exact hg _ hini
    exact (hat w hw).elim (hg w) (hn w)
  exact am_thr (vx_throwS (Qc := fun _ _ _ _ => False) (XC := am_X D A X) (free := A) (A := A) (cls := cls) (names := names) (sa := sa) (text := text) (mc := mc + 1) (ms := ms + 6) hx9 hb hlt hown hcls hnames (hts _ hk) (hts _ hini) hsa
    (fun w hw => (hat w hw).elim (hts w) (fun h => va_Nw.use (am_nk_ot (am_TN_k w h)) (hN.1 w h))) hgood hZ.1 hZ.2 hS (hl.1.trans hml.symm) d0 d3 d4 d6 d9 (by rw [htb]; exact hout) hRf hRl hRc.1 hRc.2 hlk
    (fun t hvm hsz hkeep => ⟨⟨ws, hx, hP.kept (fun k q hq => hkeep _ (hP k q hq).lt), hD⟩, Nat.le_trans hS.1 hsz, fun q h1 h2 => (hkeep q (Nat.lt_of_lt_of_le h1 hS.1)).trans (hS.2.1 q h1 h2)⟩) hS.2.2 (Nat.add_le_add_right hm.1 1) (Nat.add_le_add_right hm.2 6))
/-- the same, the text by a wide index -/
theorem am_throwSW {cls text : String} {names : List String} {ik is ic : Nat} (d0 : decode cc pc = .ok (.new ik, 3)) (d3 : decode cc (pc + 3) = .ok (.dup, 1)) (d4 : decode cc (pc + 4) = .ok (.ldc_w is, 3)) (d7 : decode cc (pc + 7) = .ok (.invokespecial ic, 3)) (d10 : decode cc (pc + 10) = .ok (.athrow, 1))
    (hcls : Bundle.fit cls = true) (hnames : ∀ n ∈ names, Bundle.fit n = true) (hk : Cond.classLink own ik cls ∈ am_TW) (hini : Cond.initialized cls ∈ am_TW) (hstr : (own, is, text) ∈ am_TS) (hat : ∀ w ∈ vx_atS own ic cls names, w ∈ am_TW ∨ w ∈ am_TN)
    (hRf : names.length + 3 < rm.frames) (hRl : (st.map fun v => v.category).sum + (13 * (names.length + 1) + 43) ≤ rm.locals) (hRc : k + 1 ≤ rm.cells ∧ n + 6 ≤ rm.slots) (hm : k ≤ mc ∧ n ≤ ms) (hout : ∀ x ∈ tableOf tb, covers x (pc + 10) = false)
    (hx : X cls ws) : am l D aC own cc nL ret ini tb G rm mc ms k n pc L st ws Q X := by
  intro p e s m args below meth c A H locs ls S hl hP hD hS
  obtain ⟨hx9, hb, hml, hown, hts, hret, hlk, hin, htb, hK, hN, hZ, hA, hlt, hG⟩ := S
  obtain ⟨sa, hsa⟩ := hN.2.1 _ hstr
  have hgood : ∀ w ∈ Cond.classLink own ik cls :: Cond.initialized cls :: vx_atS own ic cls names, vx_ot w = true := by
    have hg : ∀ w ∈ am_TW, vx_ot w = true := fun w h => by simp [vx_ot, am_TW_g w h]
    have hn : ∀ w ∈ am_TN, vx_ot w = true := fun w h => by simp [vx_ot, am_nk_ot (am_TN_k w h)]
    intro w hw
    rcases List.mem_cons.mp hw with rfl | hw
    · exact hg _ hk
    rcases List.mem_cons.mp hw with rfl | hw
    · exact hg _ hini
    exact (hat w hw).elim (hg w) (hn w)
  exact am_thr (vx_throwSW (Qc := fun _ _ _ _ => False) (XC := am_X D A X) (free := A) (A := A) (cls := cls) (names := names) (sa := sa) (text := text) (mc := mc + 1) (ms := ms + 6) hx9 hb hlt hown hcls hnames (hts _ hk) (hts _ hini) hsa
    (fun w hw => (hat w hw).elim (hts w) (fun h => va_Nw.use (am_nk_ot (am_TN_k w h)) (hN.1 w h))) hgood hZ.1 hZ.2 hS (hl.1.trans hml.symm) d0 d3 d4 d7 d10 (by rw [htb]; exact hout) hRf hRl hRc.1 hRc.2 hlk
    (fun t hvm hsz hkeep => ⟨⟨ws, hx, hP.kept (fun k q hq => hkeep _ (hP k q hq).lt), hD⟩, Nat.le_trans hS.1 hsz, fun q h1 h2 => (hkeep q (Nat.lt_of_lt_of_le h1 hS.1)).trans (hS.2.1 q h1 h2)⟩) hS.2.2 (Nat.add_le_add_right hm.1 1) (Nat.add_le_add_right hm.2 6))
theorem am_cF {y : MethodName} {cw : Cond} {av : List Value} {ad : Nat → Nat} (h : am_c l D aC y cw rm mc ms av ws Q (am_lx ad aC (fun _ _ _ => False))) : am_c l D aC y cw rm mc ms av ws Q (fun _ _ => False) := fun sz =>
  (h sz).mono (fun _ _ h => h) (fun _ _ _ _ _ h => h) (fun a s o s' _ hq => by
    rcases hq with hq | ⟨q, e, E, ce, L, hx, -⟩
    · exact Or.inl hq
    · obtain ⟨⟨ws', ⟨I, J, -, hf⟩, -⟩, -⟩ := hx
      exact hf.elim)
end AMT
