/-! own layer: a throw of an exception whose constructor hands its text on by any constant of its pool (NoSuchElementException of JDK 17: 13). zz_throwSX below is the row vx_throwS of the pasted exceptions' kit, turned to it. -/
/-- the four instructions of such a constructor -/
def zy_dec (ix : Nat) (rx : ByteArray) : Prop := decode rx 0 = .ok (.aload_n 0, 1) ∧ decode rx 1 = .ok (.aload_n 1, 1) ∧ decode rx 2 = .ok (.invokespecial ix, 3) ∧ decode rx 5 = .ok (.return_, 1)
/-- what is asked of the class's supers and of Throwable: the library's own lists -/
def zy_up (cls : String) (ix : Nat) (rx : ByteArray) : List Cond := Bundle.throwableAtoms ++ (Bundle.throwableSAtoms ++ (Bundle.passSAtoms cls "java/lang/RuntimeException" ix rx ++ Bundle.chainSAtoms "java/lang/RuntimeException" ["java/lang/Exception"]))
/-- where the five fields of Throwable lie in an object of the class -/
def zy_lay (cls : String) : List Cond := [("cause", "Ljava/lang/Throwable;"), ("stackTrace", Bundle.steD), ("suppressedExceptions", Bundle.listD), ("detailMessage", "Ljava/lang/String;"), ("backtrace", "Ljava/lang/Object;")].map (fun q => Cond.lays cls Bundle.tN q.1 q.2)
/-- what is asked of the class itself and of its maker -/
def zy_me (own : String) (ic : Nat) (cls : String) : List Cond := Cond.instantiable cls 6 :: Cond.methodLink own ic (Bundle.initS cls) :: [Bundle.tFill0, Bundle.tFill].map (fun f => Cond.selects cls f f)
/-- the two statics, and the row of the trace that nobody writes -/
def zy_st : List Cond := [.isRef (.static Bundle.tN "SUPPRESSED_SENTINEL" Bundle.listD), .isRef (.static Bundle.tN "UNASSIGNED_STACK" Bundle.steD), .lays Bundle.tN Bundle.tN "backtrace" "Ljava/lang/Object;", .fieldLink Bundle.tN 198 Bundle.tN "backtrace" "Ljava/lang/Object;"]
def zy_ws (own : String) (ic : Nat) (cls : String) (ix : Nat) (rx : ByteArray) : List Cond := zy_st ++ (zy_me own ic cls ++ (zy_lay cls ++ zy_up cls ix rx))
def zy_at (own : String) (ic : Nat) (cls : String) (ix : Nat) (rx : ByteArray) : List Cond := (zy_ws own ic cls ix rx).filter vx_no
section ZYA
variable {own cls : String} {ic ix : Nat} {rx : ByteArray} {w : Cond}
theorem zy_i1 (h : w ∈ zy_st) : w ∈ zy_ws own ic cls ix rx := List.mem_append_left _ h
theorem zy_i2 (h : w ∈ zy_me own ic cls) : w ∈ zy_ws own ic cls ix rx := List.mem_append_right _ (List.mem_append_left _ h)
theorem zy_i3 (h : w ∈ zy_lay cls) : w ∈ zy_ws own ic cls ix rx := List.mem_append_right _ (List.mem_append_right _ (List.mem_append_left _ h))
theorem zy_i4 (h : w ∈ zy_up cls ix rx) : w ∈ zy_ws own ic cls ix rx := List.mem_append_right _ (List.mem_append_right _ (List.mem_append_right _ h))
end ZYA
section ZYB
variable {p : Program} {l : Launch} {e : Env} {R : Room} {s : State} {m : MethodId} {args : Array Value} {below : List Frame} {meth : Method} {c : Code} {W : State} {cells slots : Nat}
/-- a call by name and receiver picks what the tables say -/
theorem zy_pick {X : Stand p l e R s m args below meth c W [] cells slots} {cls : String} {f : MethodName} {k : ClassId} {q : MethodId} (h : (Cond.selects cls f f).before args s = true) (hk : s.vm.findClass cls = some k) (hq : s.methodNamed? f = some q) (hr : s.methodFound? f.cls f.name f.desc = some q) : selectMethod e.platform s.vm k q = .method q := by
  obtain ⟨k', r, q', g1, g2, g3, g4, -⟩ := Cond.selects_spec h
  rw [hk] at g1
  rw [hr] at g2
  rw [hq] at g3
  cases g1
  cases g2
  cases g3
  rw [Launch.admits_selectMethod X.admits]
  exact g4
set_option maxHeartbeats 1000000 in
/-- the constructor over a new object: it comes back, and has written that object alone -/
theorem zy_made (X : Stand p l e R s m args below meth c W [] cells slots) (hx : p.tables.exec = Jvm.exec) (htr : e.platform.stackTraces = false) {own cls : String} {ic ix : Nat} {rx : ByteArray} (hd : zy_dec ix rx) (hown : s.vm.findClass own = some m.cls) (hcls : Bundle.fit cls = true) (h : ∀ w ∈ zy_ws own ic cls ix rx, w.before args s = true)
    {a : Addr} {cX : ClassId} {kX : Class} (hf : s.vm.findClass cls = some cX) (hk : s.vm.classes[cX]? = some kX) (hcell : W.heap[a]? = some (freshCell cX kX)) (hnew : s.heap.size ≤ a) {msg : Value} (hmsg : msg.isRef = true)
    {g : JFrame} (hg : g.method = m) (hsz : g.locals.size = c.maxLocals) {rest : List Value} (hst : g.stack = msg :: .ref a :: .ref a :: rest) (hdg : decode c.code g.pc = .ok (.invokespecial ic, 3)) (hRf : 5 < R.frames) (hRl : 2 * g.monitorRoom + ((Value.ref a :: rest).map fun v => v.category).sum + 81 ≤ R.locals) :
    ∃ (U : State) (L : List Loc), Stand p l e R s m args below meth c U L cells slots ∧ (∀ y ∈ L, y.base = a) ∧ (∃ ce, U.heap[a]? = some ce ∧ ce.cls = cX ∧ ce.vm = .none) ∧ ∀ target, Steps p.tables e below (U.setTop { g with pc := g.pc + 3, stack := .ref a :: rest }) target → Steps p.tables e below (W.setTop g) target := by
  have hpf : e.platform.frameOwnsMonitors = true ∧ e.platform.finalization = false ∧ e.platform.magicAccessors = ({} : Platform).magicAccessors := by
    rw [X.admits.platform]
    exact ⟨rfl, rfl, rfl⟩
  have hu : ∀ w ∈ zy_up cls ix rx, w.before args s = true := fun w q => h w (zy_i4 q)
  have hlay : ∀ n d, (n, d) ∈ [("cause", "Ljava/lang/Throwable;"), ("stackTrace", Bundle.steD), ("suppressedExceptions", Bundle.listD), ("detailMessage", "Ljava/lang/String;"), ("backtrace", "Ljava/lang/Object;")] → (Cond.lays cls Bundle.tN n d).before args s = true := fun n d q => h _ (zy_i3 (List.mem_map.mpr ⟨(n, d), q, rfl⟩))
  have hfill : ∀ f ∈ [Bundle.tFill0, Bundle.tFill], (Cond.selects cls f f).before args s = true := fun f q => h _ (zy_i2 (List.mem_cons_of_mem _ (List.mem_cons_of_mem _ (List.mem_map.mpr ⟨f, q, rfl⟩))))
  -- Throwable, and the constructors between it and the class
  obtain ⟨T, Z0, L, -, Y⟩ := ThrowableC.of_atoms (args := args) hpf.1 hpf.2.1 hpf.2.2 (fun w q => hu w (List.mem_append_left _ q))
  obtain ⟨Z, M, LZ, LM, hZ⟩ := Init0T.ofS_atoms (args := args) hpf.2.2 L Y (fun w q => hu w (List.mem_append_right _ (List.mem_append_left _ q)))
  obtain ⟨P, hP, hPm, hPs⟩ := PassC.ofS_atoms (args := args) (s := s) hpf.2.2 (X := cls) (Y := "java/lang/RuntimeException") (Bundle.fit_spec hcls).1 (by decide) hd.1 hd.2.1 hd.2.2.1 hd.2.2.2 (fun w q => hu w (List.mem_append_right _ (List.mem_append_right _ (List.mem_append_left _ q))))
  obtain ⟨P', Ps, hn, hP', hPs', hPm', hsup, hpass⟩ := Bundle.chainS (args := args) hpf.2.2 hZ ["java/lang/Exception"] "java/lang/RuntimeException" (by decide) (by decide) (fun w q => hu w (List.mem_append_right _ (List.mem_append_right _ (List.mem_append_right _ q))))
  have hall : ∀ q ∈ P :: P' :: Ps, q.LinksS e.platform s := List.forall_mem_cons.mpr ⟨hP, List.forall_mem_cons.mpr ⟨hP', hPs'⟩⟩
  have hlen : (P :: P' :: Ps).length = 3 := by simp [hn]
  have hlink : PassesOn (Z.m T.toThrowableT) ((P :: P' :: Ps).map (·.toPassT)) := ⟨Option.some.inj (hPs.symm.trans hPm'), hsup, hpass⟩
  -- the object's class
  have hfP : s.vm.findClass cls = some P.m.cls := findClass_of_methodNamed hPm
  have hcP : cX = P.m.cls := Option.some.inj (hf.symm.trans hfP)
  obtain ⟨c9, k9, i1, i2, hord, -⟩ := Cond.instantiable_spec (h _ (zy_i2 List.mem_cons_self))
  have hc9 : c9 = cX := Option.some.inj (i1.symm.trans hf)
  subst hc9
  have hk9 : k9 = kX := Option.some.inj (i2.symm.trans hk)
  subst hk9
  have p0 := zy_pick (X := X) (hfill Bundle.tFill0 (by simp)) hf Y.fill0 (State.methodFound?_of_named Y.fill0 (by decide))
  have p1 := zy_pick (X := X) (hfill Bundle.tFill (by simp)) hf Y.fill (State.methodFound?_of_named Y.fill (by decide))
  -- the two statics, in Throwable's cell, which is older than the object
  obtain ⟨cS, hcS, hiS⟩ := Y.statics
  obtain ⟨u0, hu0⟩ := Cond.staticRefV Y.unassigned L.unassignedStatic L.statics hcS hiS (h (.isRef (.static Bundle.tN "UNASSIGNED_STACK" Bundle.steD)) (zy_i1 (by simp [zy_st])))
  obtain ⟨sen, hsen⟩ := Cond.staticRefV Y.sentinel L.sentinelStatic L.statics hcS hiS (h (.isRef (.static Bundle.tN "SUPPRESSED_SENTINEL" Bundle.listD)) (zy_i1 (by simp [zy_st])))
  obtain ⟨cW, hcW, hvW, -, hsW⟩ := X.same.2.2.2.2.2 T.aS cS hcS
  have hne : T.aS ≠ a := fun q => by
    have h9 : T.aS < s.heap.size := (Array.getElem?_eq_some_iff.mp hcS).1
    exact absurd (q ▸ hnew) (Nat.not_le.mpr h9)
  have hnu : cW.vm ≠ .unknown := fun q => by
    have h9 : cS.vm = .unknown := by rw [hvW] at q; exact q
    rw [h9] at hiS
    cases hiS
  -- the five fields lie apart
  obtain ⟨iM, hM⟩ := Y.msg
  have nM : T.fMsg.name = "detailMessage" := (State.fieldFound?_type hM (t := .object "java/lang/String") (by decide +kernel)).1
  obtain ⟨b1, b2, fB, b4, b5, b6, b7, -, b9, b10, hB⟩ := Cond.ownField (t := .object "java/lang/Object") Y.found L.cls (by decide +kernel) (h (.fieldLink Bundle.tN 198 Bundle.tN "backtrace" "Ljava/lang/Object;") (zy_i1 (by simp [zy_st]))) (h (.lays Bundle.tN Bundle.tN "backtrace" "Ljava/lang/Object;") (zy_i1 (by simp [zy_st]))) e.platform hpf.2.2
  obtain ⟨t1, d1, e1, n1⟩ := Cond.laysAt hf hk Y.cause (hlay "cause" _ (by simp))
  obtain ⟨t2, d2, e2, n2⟩ := Cond.laysAt hf hk Y.stack (hlay "stackTrace" _ (by simp))
  obtain ⟨t3, d3, e3, n3⟩ := Cond.laysAt hf hk Y.supp (hlay "suppressedExceptions" _ (by simp))
  obtain ⟨t4, d4, e4, n4⟩ := Cond.laysAt hf hk hM (hlay "detailMessage" _ (by simp))
  obtain ⟨t5, d5, e5, n5⟩ := Cond.laysAt hf hk hB (hlay "backtrace" _ (by simp))
  have a1 := Cond.laysApart e5 e1 n5 n1 (by rw [b9, Y.causeName]; decide)
  have a2 := Cond.laysApart e5 e2 n5 n2 (by rw [b9, Y.stackName]; decide)
  have a3 := Cond.laysApart e5 e3 n5 n3 (by rw [b9, Y.suppName]; decide)
  have hback : SkipFacts T e.platform s (fun u => u) u0 ((preparedCellV T.toThrowableT (freshCell c9 k9) a u0 sen).withEntry W.cur) := by
    refine ⟨{ ci198 := b1, i198 := b2, fBack := fB }, ⟨b4, b5, b6, b7⟩, ?_, fun _ _ => rfl⟩
    have h0 := fresh_default (c := c9) t5
    rw [b10] at h0
    simpa [preparedCellV, Cell.setSlot, Cell.withEntry, Array.getElem?_setIfInBounds, a1, a2, a3, a1.symm, a2.symm, a3.symm, defaultValue] using h0
  -- the call
  have hin : (Cond.instanceMethod (Bundle.initS cls)).before args s = true := hu _ (List.mem_append_right _ (List.mem_append_right _ (List.mem_append_left _ (by simp [Bundle.passSAtoms]))))
  have hco : (Cond.code (Bundle.initS cls) rx 2 none).before args s = true := hu _ (List.mem_append_right _ (List.mem_append_right _ (List.mem_append_left _ (by simp [Bundle.passSAtoms]))))
  obtain ⟨q0, q1, q2, q3, vm1, hq0, -, -, -, -, -, -, -, hw1, go1⟩ := Steps.initColdS (tb := p.tables) (e := e) (below := below) (s := s) (U := W) X.here hx X.warmed hpf.2.2 hown (t := Bundle.initS cls) rfl rfl (Bundle.fit_spec hcls).2 (h _ (zy_i2 (List.mem_cons_of_mem _ List.mem_cons_self))) hin (bytes := rx) (maxL := 2) hco
    (f := g) hg (a := a) (msg := msg) (rest := .ref a :: rest) hst hdg
  have hq : q0 = P.m := Option.some.inj (hq0.symm.trans hPm)
  subst hq
  obtain ⟨vm2, X2, go2⟩ := (X.noted hw1).ctorMessageOffV hx (g := { g with stack := .ref a :: rest }) hg hsz T L Z LZ M LM (P :: P' :: Ps) hall hlink (u0 := u0) (sen := sen) (self := a) hmsg (cell := freshCell c9 k9) (cellS := cW)
    hcell (fun _ => by simp) (by simp) rfl rfl p0 p1 hcW hne hnu (by rw [hsW _ (fun i => nomatch i)]; exact hu0) (by rw [hsW _ (fun i => nomatch i)]; exact hsen)
    (Takes.of_laid hk hord t1 (by rw [Y.causeType]; rfl)) (Takes.of_laid hk hord t2 (by rw [Y.stackType]; exact fits_refV_array _ u0)) (Takes.of_laid hk hord t3 (by rw [Y.suppType]; exact fits_refV_object _ sen)) (Takes.of_laid hk hord t4 (by rw [Y.msgType]; exact fits_refV_object _ ⟨msg, hmsg⟩))
    Y.objLocals hback htr [] hdg (by rw [hlen]; exact hRf) (by rw [hlen]; exact hRl)
  have hla : a < ((W.setVm vm1).setVm vm2).heap.size := (Array.getElem?_eq_some_iff.mp hcell).1
  refine ⟨_, _, X2, fun y hy => ?_, ⟨_, heapAt_setCell_self (s := (W.setVm vm1).setVm vm2) _ hla, rfl, rfl⟩, fun target hgo => go1 _ fun acts => ?_⟩
  · simp only [List.nil_append, List.mem_cons, List.not_mem_nil, or_false] at hy
    rcases hy with rfl | rfl | rfl | rfl | rfl <;> rfl
  · rw [doInvoke_state]
    exact go2 _ hgo
/-- .. and thrown out of the method -/
theorem zy_ctor (X : Stand p l e R s m args below meth c W [] cells slots) (hx : p.tables.exec = Jvm.exec) (htr : e.platform.stackTraces = false) {own cls : String} {ic ix : Nat} {rx : ByteArray} (hd : zy_dec ix rx) (hown : s.vm.findClass own = some m.cls) (hcls : Bundle.fit cls = true) (h : ∀ w ∈ zy_ws own ic cls ix rx, w.before args s = true)
    {a : Addr} {cX : ClassId} {kX : Class} (hf : s.vm.findClass cls = some cX) (hk : s.vm.classes[cX]? = some kX) (hcell : W.heap[a]? = some (freshCell cX kX)) (hnew : s.heap.size ≤ a) {msg : Value} (hmsg : msg.isRef = true)
    {g : JFrame} (hg : g.method = m) (hsz : g.locals.size = c.maxLocals) (hlk : g.locked = none) (hen : g.entered = []) {rest : List Value} (hst : g.stack = msg :: .ref a :: .ref a :: rest) (hdg : decode c.code g.pc = .ok (.invokespecial ic, 3)) (hdt : decode c.code (g.pc + 3) = .ok (.athrow, 1)) (hout : ∀ x ∈ c.exceptionTable.toList, covers x (g.pc + 3) = false)
    (hRf : 5 < R.frames) (hRl : 2 * g.monitorRoom + ((Value.ref a :: rest).map fun v => v.category).sum + 81 ≤ R.locals) (hlocks : meth.locks = false) :
    ∃ U : State, Steps p.tables e below (W.setTop g) U ∧ U.status = .running ∧ Ended U below (.threw a) ∧ s.WarmedH U.vm ∧ s.sameButNew ({ U with vm := s.vm } : State) [] cells slots ∧ ∃ ce, U.heap[a]? = some ce ∧ s.vm.findClass cls = some ce.cls ∧ ce.vm = .none := by
  obtain ⟨V, Lv, XV, hLv, ⟨ce, c1, c2, c3⟩, go⟩ := zy_made X hx htr hd hown hcls h hf hk hcell hnew hmsg hg hsz hst hdg hRf hRl
  obtain ⟨hwalk, hrun, hend, hwu, hsame⟩ := XV.athrowLeaves hx (g := { g with stack := .ref a :: rest, pc := g.pc + 3 }) hg hlk hen hout (a := a) (rest := rest) rfl hdt
  refine ⟨_, go _ hwalk, hrun, hend, hwu, hsame.weaken (fun y hy hlt => ?_) (Nat.le_refl _) (Nat.le_refl _), ce, c1, by rw [c2]; exact hf, c3⟩
  rw [hLv y hy] at hlt
  exact absurd hnew (Nat.not_le.mpr hlt)
end ZYB
section EndsX
variable {p : Program} {l : Launch} {e : Env} {R : Room} {s : State} {m : MethodId} {args : Array Value} {below : List Frame} {meth : Method} {c : Code} {H : Heap} {locs : List Loc} {cells slots : Nat} {Q : State → Prop}
variable {mc ms : Nat} {free : Addr → Prop} {A0 A1 : Nat → Prop} {H0 : Heap} {a : Array Value} {ls : Array Slot} {st0 rest : List Value}
variable {Qc : Array Value → State → Outcome → State → Prop} {XC : String → State → State → Prop}
theorem zz_throwSX {cc : ByteArray} {pc : Nat} {ix : Nat} {rx : ByteArray} (hd : zy_dec ix rx) (hexec : p.tables.exec = Jvm.exec) (hb : c.code = cc) (hl : l.stackTraces = false) {own cls text : String} {ik is ic mc ms sa : Nat} {A : Nat → Prop}
    (hown : s.vm.findClass own = some m.cls) (hcls : Bundle.fit cls = true)
    (hk : (Cond.classLink own ik cls).before args s = true) (hini : (Cond.initialized cls).before args s = true) (hstr : vk_R own is text sa s) (hat : ∀ w ∈ zy_at own ic cls ix rx, w.before args s = true)
    (hgood : ∀ w ∈ Cond.classLink own ik cls :: Cond.initialized cls :: zy_at own ic cls ix rx, vx_ot w = true)
    (hU : vx_Zq Bundle.tN "UNASSIGNED_STACK" Bundle.steD A s s.heap) (hN : vx_Zq Bundle.tN "SUPPRESSED_SENTINEL" Bundle.listD A s s.heap) (hS : va_S A s.heap H locs) (hsize : ls.size = c.maxLocals)
    (d0 : decode cc pc = .ok (.new ik, 3)) (d3 : decode cc (pc + 3) = .ok (.dup, 1)) (d4 : decode cc (pc + 4) = .ok (.ldc is, 2)) (d6 : decode cc (pc + 6) = .ok (.invokespecial ic, 3)) (d9 : decode cc (pc + 9) = .ok (.athrow, 1))
    (hout : ∀ x ∈ c.exceptionTable.toList, covers x (pc + 9) = false)
    (hRframes : 5 < R.frames) (hRlocals : (rest.map fun v => v.category).sum + 82 ≤ R.locals) (hRcells : cells + 1 ≤ R.cells) (hRslots : slots + 6 ≤ R.slots) (hlocks : meth.locks = false)
    (hx : ∀ t : State, s.vm.Alike t.vm → H.size ≤ t.heap.size → (∀ q : Nat, q < H.size → t.heap[q]? = H[q]?) → XC cls s t)
    (hf : ∀ z ∈ locs, free z.base) (hc : cells + 1 ≤ mc) (hs : slots + 6 ≤ ms) :
    W p l e R s m args below meth c H locs cells slots (vx_MQ below Qc XC args s mc ms free) (F0 m pc ls rest) := by
  intro T hT X
  have htr : e.platform.stackTraces = false := (show e.platform.stackTraces = l.stackTraces by rw [X.admits.platform]).trans hl
  have Y := vx_rebase X (R' := { frames := R.frames, locals := R.locals, cells := 1, slots := 6 }) (Nat.le_refl _) (Nat.le_refl _) hRcells hRslots
  obtain ⟨s', hA⟩ : ∃ z, z = (T.setVm s.vm).setFrames (.invoking m args :: below) := ⟨_, rfl⟩
  rw [← hA] at Y
  have hvm : s'.vm = s.vm := by rw [hA]; rfl
  have hhp : s'.heap = H := by rw [hA]; exact hT
  have hW0 : s.WarmedH s'.vm := by rw [hvm]; exact State.WarmedH.refl s
  have hat' : ∀ w ∈ zy_at own ic cls ix rx, w.before args s' = true := fun w hw => vx_ot_at hW0 hvm.symm (hgood w (List.mem_cons_of_mem _ (List.mem_cons_of_mem _ hw))) (hat w hw)
  have hk' : (Cond.classLink own ik cls).before args s' = true := vx_ot_at hW0 hvm.symm (hgood _ List.mem_cons_self) hk
  have hini' : (Cond.initialized cls).before args s' = true := vx_ot_at hW0 hvm.symm (hgood _ (List.mem_cons_of_mem _ List.mem_cons_self)) hini
  have hU' : vx_Zq Bundle.tN "UNASSIGNED_STACK" Bundle.steD A s' s'.heap := by rw [hhp]; exact vx_Zq.moved hW0.alike (hU.kept hS.2.1)
  have hN' : vx_Zq Bundle.tN "SUPPRESSED_SENTINEL" Bundle.listD A s' s'.heap := by rw [hhp]; exact vx_Zq.moved hW0.alike (hN.kept hS.2.1)
  have h : ∀ w ∈ zy_ws own ic cls ix rx, w.before args s' = true := vx_own hat' (vx_isRefq hU'.1) (vx_isRefq hN'.1) hU'.2.word hN'.2.word
  have hown' : s'.vm.findClass own = some m.cls := by rw [hvm]; exact hown
  have hins : (Cond.instantiable cls 6).before args s' = true := h _ (zy_i2 List.mem_cons_self)
  obtain ⟨vm₁, cX, kX, hfX, hkX, -, -, X₁, st1⟩ := Y.newCold hexec (own := own) (C := cls) (index := ik) (n := 6) hown' hk' hins hini'
    (g := F0 m pc ls rest) rfl (by rw [hb]; exact d0) (Nat.le_refl _) (Nat.le_refl _)
  generalize hT1 : (T.setVm vm₁).pushCell { cls := cX, slots := kX.instanceTypes.map defaultValue, vm := .none } = T1 at X₁ st1
  have hcat : (Value.ref T.heap.size).category = 1 := rfl
  have hcellA : T1.heap[T.heap.size]? = some (freshCell cX kX) := by rw [← hT1]; exact State.heap_pushCell_size _ _
  have d3' : decode c.code (pc + 3) = .ok (.dup, 1) := by rw [hb]; exact d3
  have d4' : decode c.code (pc + 4) = .ok (.ldc is, 2) := by rw [hb]; exact d4
  have hstr' : vk_R own is text sa s' := vk_R.warm hW0 hstr
  obtain ⟨U, hsteps, hrun, hend, hW, hsame, ce, hce, hOc, hOv⟩ := zy_ctor X₁ hexec htr hd (own := own) (cls := cls) (ic := ic) hown' hcls h hfX hkX hcellA (by rw [hhp, hT]; exact Nat.le_refl _) (msg := .ref sa) rfl
    (g := { method := m, pc := pc + 6, locals := ls, stack := .ref sa :: .ref T.heap.size :: .ref T.heap.size :: rest, locked := none }) rfl hsize rfl rfl (rest := rest) rfl
    (by rw [hb]; exact d6) (by rw [hb]; exact d9) hout hRframes (by simp only [List.map_cons, List.sum_cons, hcat]; omega) hlocks
  obtain ⟨f1, f2⟩ := vx_frame hsame
  rw [hhp] at f1 f2
  have hWs : s.WarmedH U.vm := State.WarmedH.trans hW0 hW
  have hcl : s.vm.findClass cls = some ce.cls := by
    have h9 := hOc
    rw [hvm] at h9
    exact h9
  have hall : s.sameButNew ({ U with vm := s.vm } : State) locs mc ms := by
    subst hA
    obtain ⟨e1, e2⟩ := hsame
    rw [State.setFrames_setFrames] at e1
    have h2 : (T.setVm s.vm).sameButNew ({ U with vm := s.vm } : State) [] (0 + 1) (0 + 6) := ⟨e1, e2⟩
    have h3 := X.same.trans h2
    rw [List.append_nil] at h3
    exact h3.mono hc hs
  refine ⟨U, ?_, .threw T.heap.size, hrun, hend, Or.inr ⟨T.heap.size, rfl, cls, ce, locs, hx U hWs.alike f1 (fun q hq => f2 q hq (fun z hz => nomatch hz)), hce, hOv, hcl, hWs, hall, hf⟩⟩
  refine st1 _ ?_
  show Steps p.tables e below (T1.setTop { method := m, pc := pc + 3, locals := ls, stack := .ref T.heap.size :: rest, locked := none }) _
  jvm_step X₁.here [X₁.here.top, hexec, d3', Value.category]
  exact X₁.ldcString hexec (own := own) (text := text) (index := is) (a := sa) hown' hstr'.1 hstr'.2
    (g := { method := m, pc := pc + 4, locals := ls, stack := .ref T.heap.size :: .ref T.heap.size :: rest, locked := none }) rfl d4' _ hsteps
end EndsX
