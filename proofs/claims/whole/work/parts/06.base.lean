section VXIA
variable {p : Program} {l : Launch} {e : Env} {R : Room} {s : State} {m : MethodId} {args : Array Value} {below : List Frame} {meth : Method} {c : Code} {T : State} {locs : List Loc} {cells slots : Nat}
theorem vx_callI (X : Stand p l e R s m args below meth c T locs cells slots) (hexec : p.tables.exec = Jvm.exec) {own : String} {index : Nat} {y : MethodName} {bytes : ByteArray} {maxL : Nat}
    (hown : s.vm.findClass own = some m.cls) (hy1 : y.name = "<init>") (hlink : (Cond.methodLink own index y).before args s = true) (hinst : (Cond.instanceMethod y).before args s = true)
    (hcode : (Cond.code y bytes maxL none).before args s = true) (hy : y.cls ≠ "java/lang/invoke/MethodHandle" ∧ y.cls ≠ "java/lang/invoke/VarHandle")
    {W9 : Nat} {Pre : Pt → Array Value → Prop} {Post : Pt → Array Value → Option Value → Pt → Prop} {PostX : Pt → Array Value → Addr → Pt → Prop} (hK : vx_Back l R p e below s args y 3 W9 Pre Post PostX)
    {g : JFrame} (hg : g.method = m) (hsize : g.locals.size = c.maxLocals) {a : Addr} {argsL rest : List Value} (hlen : ∀ sig, parseMethodDescriptor y.desc = some sig → argsL.length = sig.parameters.length)
    (hstack : g.stack = argsL.reverse ++ .ref a :: rest) (hW : 2 * g.monitorRoom + (rest.map fun v => v.category).sum ≤ W9) (hdg : decode c.code g.pc = .ok (.invokespecial index, 3))
    (hpre : ∀ vm₁, s.WarmedH vm₁ → Pre ⟨T.setVm vm₁, locs, cells, slots⟩ (Value.ref a :: argsL).toArray) :
    (∃ (v : Option Value) (vm₁ : Vm) (B : Pt), s.WarmedH vm₁ ∧ Stand p l e R s m args below meth c B.U B.locs B.cells B.slots ∧ Post ⟨T.setVm vm₁, locs, cells, slots⟩ (Value.ref a :: argsL).toArray v B ∧
      ∀ target, Steps p.tables e below (B.U.setTop { g with pc := g.pc + 3, stack := v.toList ++ rest }) target → Steps p.tables e below (T.setTop g) target) ∨
    (∃ (q : Addr) (vm₁ : Vm) (B : Pt), s.WarmedH vm₁ ∧ Stand p l e R s m args below meth c B.U B.locs B.cells B.slots ∧ PostX ⟨T.setVm vm₁, locs, cells, slots⟩ (Value.ref a :: argsL).toArray q B ∧
      Steps p.tables e below (T.setTop g) ((B.U.setTop { g with stack := rest }).pushFrame (.throwing q))) := by
  subst hg
  have hpl : e.platform.magicAccessors = ({} : Platform).magicAccessors := by rw [X.admits.platform]
  obtain ⟨mk, methM, cM, kP, vm₁, hnamed, hmethM, hcodeM, -, hlocalsM, -, hkP, -, hW₁, hstep₁⟩ := Steps.initColdArgs (e := e) X.here hexec X.warmed hpl hown hy1 hy hlink hinst hcode (f := g) rfl hlen hstack hdg
  have X₁ := X.noted hW₁
  rcases hK g.method meth c ⟨T.setVm vm₁, locs, cells, slots⟩ { g with stack := rest } (.invokespecial index) mk (Value.ref a :: argsL).toArray X₁ rfl hsize hdg hW (X₁.named hnamed) (hpre vm₁ X₁.warmed) with ⟨v, B, X', hpost, hsteps⟩ | ⟨q, B, X', hpost, hsteps⟩
  · exact Or.inl ⟨v, vm₁, B, X₁.warmed, X', hpost, fun target h => hstep₁ _ fun acts => by rw [doInvoke_state]; exact hsteps.trans h⟩
  · exact Or.inr ⟨q, vm₁, B, X₁.warmed, X', hpost, hstep₁ _ fun acts => by rw [doInvoke_state]; exact hsteps⟩
end VXIA
section VXIB
variable {p : Program} {l : Launch} {e : Env} {R : Room} {s : State} {m : MethodId} {args : Array Value} {below : List Frame} {meth : Method} {c : Code} {H : Heap} {locs : List Loc} {cells slots : Nat}
variable {y : MethodName} {bytes cc : ByteArray} {maxL nL mc ms n index : Nat} {ret : Option FieldType} {ws : List Cond} {rm : Room} {Pc : Array Value → State → Prop} {Qc : Array Value → State → Outcome → State → Prop} {XC : String → State → State → Prop} {free : Addr → Prop} {Ts : List Cond} {own C : String} {b : Addr} {As rest : List Value} {g : JFrame}
theorem vx_runI (S : CallFix p m c cc nL s args Ts own) (hM : vx_Met l y ws rm Pc Qc XC mc ms free) (cw : CallB R s args own index y bytes maxL none ws rm mc ms n ∧ y.name = "<init>" ∧ (Cond.instanceMethod y).before args s = true) (hp : PreS s H Pc (.ref b :: As))
    (hg : g.method = m) (hn : As.length = n) (hsize : g.locals.size = nL) (hstack : g.stack = As.reverse ++ .ref b :: rest) (hW : 2 * g.monitorRoom + (rest.map fun v => v.category).sum ≤ 8) (hdg : decode cc g.pc = .ok (.invokespecial index, 3)) (hf : cells + mc ≤ R.cells ∧ slots + ms ≤ R.slots) :
    vx_Run p l e R s m args below meth c H locs cells slots mc ms g rest (Qc (Value.ref b :: As).toArray) XC free := by
  have hK : vx_Back l R p e below s args y 3 8 (PreOf R mc ms Pc) (PostOf Qc mc ms free) (vx_Post XC mc ms free) := vx_callBack cw.1 hM hp.1
  obtain ⟨⟨-, -, -, -, -, -, hcode, -, hy, hlen, hl⟩, hy1, hin⟩ := cw
  obtain ⟨hx, hb, hml, ho, -⟩ := S
  have hPc := hp.2
  intro T hT X
  rcases vx_callI X hx (bytes := bytes) (maxL := maxL) ho hy1 hl hin hcode hy hK hg (hsize.trans hml.symm) (a := b) (argsL := As) (rest := rest) (fun sig h => hn.trans (hlen sig h)) hstack hW (by rw [hb]; exact hdg)
    (fun vm₁ hW₁ => ⟨hf.1, hf.2, hPc (T.setVm vm₁) hT hW₁⟩) with ⟨v, vm₁, ⟨U', l2, c2, s2⟩, hW₁, X', ⟨g', mk, t, L, e1, e2, hq, h1, hL, h2, h3⟩, st⟩ | ⟨q, vm₁, ⟨U', l2, c2, s2⟩, hW₁, X', ⟨g', mk, t, L, E, ce, e1, e2, hq, hce, hcv, hcl, h1, hL, h2, h3⟩, st⟩
  · dsimp only [Pt.U, Pt.locs, Pt.cells, Pt.slots] at X' e1 e2 h1 h2 h3 st
    subst h1; subst h2; subst h3
    exact Or.inl ⟨v, (T.setVm vm₁).calling g' mk (Value.ref b :: As).toArray, t, U', L, hT, X', hL, e1, e2, hq, st⟩
  · dsimp only [Pt.U, Pt.locs, Pt.cells, Pt.slots] at X' e1 e2 h1 h2 h3 st hcl
    subst h1; subst h2; subst h3
    exact Or.inr ⟨q, (T.setVm vm₁).calling g' mk (Value.ref b :: As).toArray, t, U', L, E, ce, hT, X', hL, e1, e2, hq, hce, hcv, vx_cls hW₁ hcl, st⟩
end VXIB
/-! own layer: what stands in every state, one form of contract, calls and ends in that form -/
abbrev zz_G : Type := va_G × (Nat → ClassId) × (Nat → Nat)
abbrev zz_at (K : zz_G) (a : Nat) (e : va_E) (H : Heap) : Prop := va_at K.1 vwCl (a, e) H
def zz_ty (K : zz_G) : List (ClassId × FieldType) := [(K.2.1 0, .int), (K.2.1 1, .boolean), (K.2.1 2, .object "java/lang/Object"), (K.2.1 3, .long), (K.2.1 4, .double)]
def zz_ex : List String := ["java/lang/IllegalArgumentException", "java/lang/IllegalStateException", "java/lang/IndexOutOfBoundsException", "java/util/NoSuchElementException", "java/lang/UnsupportedOperationException", "java/lang/ArithmeticException"]
def zz_E (K : zz_G) (A : Nat → Prop) (U : State) (H : Heap) : Prop :=
  (va_K K.1 vwCl (zz_ty K) U ∧ (∀ w ∈ zz_ng, va_Nw w U) ∧ va_AO "java/lang/Object" U ∧ va_Mi "[Ljava/lang/Object;" (K.2.2 1) U ∧ va_Dc U ∧ (∀ q ∈ zz_str, ∃ sa, vk_R RX2 q.1 q.2 sa U) ∧ (∀ x ∈ zz_ex, ∀ y ∈ zz_ex, x ≠ y → va_Nc x y U)) ∧
  (vx_Zq Bundle.tN "UNASSIGNED_STACK" Bundle.steD A U H ∧ vx_Zq Bundle.tN "SUPPRESSED_SENTINEL" Bundle.listD A U H ∧ va_Z RJx4a65c "DEFAULTCAPACITY_EMPTY_ELEMENTDATA" "[Ljava/lang/Object;" (.ref (K.2.2 0)) A U H ∧ va_T (.object "java/lang/Object") (K.2.2 0) 0 (fun _ => .null) A U H)
def zz_mv : Cond → Bool
  | .fieldLinkNest .. | .declares _ | .castable .. => true
  | _ => false
theorem zz_ng_mv : ∀ w ∈ zz_ng, zz_mv w = true := by decide +kernel
theorem zz_nw {w : Cond} (h : zz_mv w = true) {s U : State} (hW : s.WarmedH U.vm) (hw : va_Nw w s) : va_Nw w U := by
  cases w <;> first | exact va_Nw.warmF hW hw | exact va_Nw.warmD hW hw | exact va_Nw.warmC hW hw | (simp [zz_mv] at h)
theorem zz_E.moved {K : zz_G} {A : Nat → Prop} {u U : State} {H : Heap} (hW : u.WarmedH U.vm) (h : zz_E K A u H) : zz_E K A U H := by
  obtain ⟨⟨h1, h2, h3, h4, h5, h6, h7⟩, h8, h9, h10, h11⟩ := h
  have hv := hW.alike
  exact ⟨⟨h1.moved hv, fun w hw => zz_nw (zz_ng_mv w hw) hW (h2 w hw), h3.moved hv, h4.moved hv, h5.moved hv, fun q hq => by obtain ⟨sa, ha⟩ := h6 q hq; exact ⟨sa, vk_R.warm hW ha⟩, fun x hx y hy hn => (h7 x hx y hy hn).moved hv⟩, h8.moved hv, h9.moved hv, h10.moved hv, h11.moved hv⟩
theorem zz_E.kept {K : zz_G} {A : Nat → Prop} {U : State} {H H1 : Heap} (h : zz_E K A U H) (hq : ∀ a : Nat, a < H.size → ¬ A a → H1[a]? = H[a]?) : zz_E K A U H1 :=
  ⟨h.1, h.2.1.kept hq, h.2.2.1.kept hq, h.2.2.2.1.kept hq, h.2.2.2.2.kept hq⟩
theorem zz_E.narrow {K : zz_G} {A B : Nat → Prop} {U : State} {H : Heap} (h : zz_E K A U H) (hAB : ∀ q, B q → A q) : zz_E K B U H :=
  ⟨h.1, h.2.1.narrow hAB, h.2.2.1.narrow hAB, h.2.2.2.1.narrow hAB, h.2.2.2.2.narrow hAB⟩
theorem zz_E.K {K : zz_G} {A : Nat → Prop} {U : State} {H : Heap} (h : zz_E K A U H) : va_K K.1 vwCl (zz_ty K) U := h.1.1
theorem zz_E.N {K : zz_G} {A : Nat → Prop} {U : State} {H : Heap} (h : zz_E K A U H) : ∀ w ∈ zz_ng, va_Nw w U := h.1.2.1
/-- a change of the heap within A -/
def zz_fr (A : Nat → Prop) (H H1 : Heap) : Prop := H.size ≤ H1.size ∧ ∀ q : Nat, q < H.size → ¬ A q → H1[q]? = H[q]?
def zz_no : Nat → Prop := fun _ => False
theorem zz_fr.rf {A : Nat → Prop} {H : Heap} : zz_fr A H H := ⟨Nat.le_refl _, fun _ _ _ => rfl⟩
theorem zz_fr.mono {A B : Nat → Prop} {H H1 : Heap} (h : zz_fr A H H1) (hAB : ∀ q, A q → B q) : zz_fr B H H1 := ⟨h.1, fun q h1 h2 => h.2 q h1 (fun z => h2 (hAB q z))⟩
theorem zz_fr.tr {A : Nat → Prop} {H H1 H2 : Heap} (h : zz_fr A H H1) (g : zz_fr A H1 H2) : zz_fr A H H2 := ⟨Nat.le_trans h.1 g.1, fun q h1 h2 => (g.2 q (Nat.lt_of_lt_of_le h1 h.1) h2).trans (h.2 q h1 h2)⟩
theorem zz_at.ro {K : zz_G} {a : Nat} {e : va_E} {H H1 : Heap} (h : zz_at K a e H) (g : zz_fr zz_no H H1) : zz_at K a e H1 := va_at.kept h (g.2 _ (va_at.lt h) (fun z => z))
theorem zz_at.fr {K : zz_G} {A : Nat → Prop} {a : Nat} {e : va_E} {H H1 : Heap} (h : zz_at K a e H) (g : zz_fr A H H1) (hA : ¬ A a) : zz_at K a e H1 := va_at.kept h (g.2 _ (va_at.lt h) hA)
theorem zz_Smono {A B : Nat → Prop} {H0 H : Heap} {locs : List Loc} (h : va_S A H0 H locs) (hAB : ∀ q, A q → B q) : va_S B H0 H locs := ⟨h.1, fun q h1 h2 => h.2.1 q h1 (fun z => h2 (hAB q z)), fun q hq => hAB _ (h.2.2 q hq)⟩
def zz_Pc (K : zz_G) (A : Nat → Prop) (as : List Value) (P : Heap → Prop) : Array Value → State → Prop := fun a U => a = as.toArray ∧ zz_E K A U U.heap ∧ (∀ q : Nat, U.heap.size ≤ q → A q) ∧ P U.heap
def zz_Qc (Q : Option Value → Heap → Heap → Prop) (B : Nat → Prop) : Array Value → State → Outcome → State → Prop := fun _ st o t => ∃ v, o = .returned v ∧ Q v st.heap t.heap ∧ zz_fr B st.heap t.heap
def zz_XC (X : String → Heap → Heap → Prop) : String → State → State → Prop := fun E st t => X E st.heap t.heap ∧ zz_fr zz_no st.heap t.heap
theorem zz_blind {K : zz_G} {A : Nat → Prop} {as : List Value} {P : Heap → Prop} : FrameBlind (zz_Pc K A as P) := fun a U g mk q => ⟨q.1, zz_E.moved (u := U) (U := U.calling g mk a) (State.WarmedH.refl U) q.2.1, q.2.2.1, q.2.2.2⟩
abbrev zz_ws (y : MethodName) (cc : ByteArray) (n : Nat) (r : Option FieldType) : List Cond := .code y cc n r :: zz_BW
def zz_C (l : Launch) (y : MethodName) (cc : ByteArray) (n : Nat) (r : Option FieldType) (rm : Room) (K : zz_G) (A : Nat → Prop) (as : List Value) (P : Heap → Prop) (Q : Option Value → Heap → Heap → Prop) (X : String → Heap → Heap → Prop) (B : Nat → Prop) : Prop :=
  vx_Met l y (zz_ws y cc n r) rm (zz_Pc K A as P) (zz_Qc Q B) (zz_XC X) rm.cells rm.slots B
/-- a method that throws nothing -/
def zz_nx : String → Heap → Heap → Prop := fun _ _ _ => False
section ZB
variable {p : Program} {l : Launch} {e : Env} {R : Room} {s : State} {m : MethodId} {args : Array Value} {below : List Frame} {meth : Method} {c : Code} {H : Heap} {locs : List Loc} {cells slots : Nat} {Qf : State → Prop}
variable {cc : ByteArray} {pc : Nat} {ls : Array Slot} {rest st0 : List Value} {K : zz_G} {A B : Nat → Prop} {H0 : Heap} {mc ms : Nat}
theorem zz_body {y : MethodName} {n : Nat} {r : Option FieldType} {rm : Room} {as : List Value} {P : Heap → Prop} {Q : Option Value → Heap → Heap → Prop} {X : String → Heap → Heap → Prop} (hy : plainName y.cls = true) (hn : (lg_sl as).length ≤ n)
    (body : ∀ (p : Program) (e : Env) (s : State) (m : MethodId) (below : List Frame) (meth : Method) (c : Code) (ls : Array Slot), p.tables.exec = Jvm.exec → c.code = cc → meth.sig.returnType = r → c.maxLocals = n → (∀ w ∈ zz_BW, w.before as.toArray s = true) → s.vm.findClass y.cls = some m.cls → meth.locks = false → meth.name = y.name → (∀ x ∈ c.exceptionTable.toList, False) →
      zz_E K A s s.heap → (∀ q : Nat, s.heap.size ≤ q → A q) → P s.heap → lv_has ls n (lv_args 0 as) → W p l e rm s m as.toArray below meth c s.heap [] 0 0 (vx_MQ below (zz_Qc Q B) (zz_XC X) as.toArray s rm.cells rm.slots B) (F0 m 0 ls [])) : zz_C l y cc n r rm K A as P Q X B := by
  refine vx_ofW hy rfl ?_
  intro p e s m args below meth c s₁ B' hml htab hv
  obtain ⟨rfl, hE, hA, hP⟩ := hv
  rw [lg_entry_eq]
  exact body p e s m below meth c _ B'.exec B'.bytes B'.returns hml (fun w hw => atoms_spec (ws := zz_ws y cc n r) B'.pre w (List.mem_cons_of_mem _ hw)) (findClass_of_methodNamed B'.named) B'.notSynchronized (name_of_methodNamed B'.named B'.method).1 htab hE hA hP (lv_entry as hn)
section ZR
variable {Q : Option Value → Heap → Heap → Prop} {X : String → Heap → Heap → Prop}
theorem zz_vret (hx : p.tables.exec = Jvm.exec) (hb : c.code = cc) (hr : meth.sig.returnType = none) (hlocks : meth.locks = false) (hS : va_S B s.heap H locs) (hc : cells ≤ mc) (hs : slots ≤ ms) (hdg : decode cc pc = .ok (.return_, 1)) (hq : Q none s.heap H) :
    W p l e R s m args below meth c H locs cells slots (vx_MQ below (zz_Qc Q B) (zz_XC X) args s mc ms B) (F0 m pc ls []) :=
  W.widen hc hs (vx_ret (W.vret hx hb hr (fun t ht _ => ⟨_, rfl, by rw [ht]; exact hq, by rw [ht]; exact ⟨hS.1, hS.2.1⟩⟩) hS.2.2 hdg hlocks))
theorem zz_iret {v : Int32} (hx : p.tables.exec = Jvm.exec) (hb : c.code = cc) (hr : meth.sig.returnType = some .int) (hlocks : meth.locks = false) (hS : va_S B s.heap H locs) (hc : cells ≤ mc) (hs : slots ≤ ms) (hdg : decode cc pc = .ok (.ireturn, 1)) (hq : Q (some (.int v)) s.heap H) :
    W p l e R s m args below meth c H locs cells slots (vx_MQ below (zz_Qc Q B) (zz_XC X) args s mc ms B) (F0 m pc ls [.int v]) :=
  W.widen hc hs (vx_ret (W.iret hx hb hr (fun t ht _ => ⟨_, rfl, by rw [ht]; exact hq, by rw [ht]; exact ⟨hS.1, hS.2.1⟩⟩) hS.2.2 hdg hlocks))
theorem zz_zret {v : Int32} (hx : p.tables.exec = Jvm.exec) (hb : c.code = cc) (hr : meth.sig.returnType = some .boolean) (hlocks : meth.locks = false) (hS : va_S B s.heap H locs) (hc : cells ≤ mc) (hs : slots ≤ ms) (hdg : decode cc pc = .ok (.ireturn, 1)) (hv : v = 0 ∨ v = 1) (hq : Q (some (.int v)) s.heap H) :
    W p l e R s m args below meth c H locs cells slots (vx_MQ below (zz_Qc Q B) (zz_XC X) args s mc ms B) (F0 m pc ls [.int v]) :=
  W.widen hc hs (vx_ret (W.zret (ty := .boolean) hx hb hr (by rcases hv with rfl | rfl <;> rfl) (fun t ht _ => ⟨_, rfl, by rw [ht]; exact hq, by rw [ht]; exact ⟨hS.1, hS.2.1⟩⟩) hS.2.2 hdg hlocks))
theorem zz_lret {v : Int64} (hx : p.tables.exec = Jvm.exec) (hb : c.code = cc) (hr : meth.sig.returnType = some .long) (hlocks : meth.locks = false) (hS : va_S B s.heap H locs) (hc : cells ≤ mc) (hs : slots ≤ ms) (hdg : decode cc pc = .ok (.lreturn, 1)) (hq : Q (some (.long v)) s.heap H) :
    W p l e R s m args below meth c H locs cells slots (vx_MQ below (zz_Qc Q B) (zz_XC X) args s mc ms B) (F0 m pc ls [.long v]) :=
  W.widen hc hs (vx_ret (W.lret hx hb hr (fun t ht _ => ⟨_, rfl, by rw [ht]; exact hq, by rw [ht]; exact ⟨hS.1, hS.2.1⟩⟩) hS.2.2 hdg hlocks))
theorem zz_dret {v : UInt64} (hx : p.tables.exec = Jvm.exec) (hb : c.code = cc) (hr : meth.sig.returnType = some .double) (hlocks : meth.locks = false) (hS : va_S B s.heap H locs) (hc : cells ≤ mc) (hs : slots ≤ ms) (hdg : decode cc pc = .ok (.dreturn, 1)) (hq : Q (some (.double v)) s.heap H) :
    W p l e R s m args below meth c H locs cells slots (vx_MQ below (zz_Qc Q B) (zz_XC X) args s mc ms B) (F0 m pc ls [.double v]) :=
  W.widen hc hs (vx_ret (W.dret hx hb hr (fun t ht _ => ⟨_, rfl, by rw [ht]; exact hq, by rw [ht]; exact ⟨hS.1, hS.2.1⟩⟩) hS.2.2 hdg hlocks))
theorem zz_fret {v : UInt32} (hx : p.tables.exec = Jvm.exec) (hb : c.code = cc) (hr : meth.sig.returnType = some .float) (hlocks : meth.locks = false) (hS : va_S B s.heap H locs) (hc : cells ≤ mc) (hs : slots ≤ ms) (hdg : decode cc pc = .ok (.freturn, 1)) (hq : Q (some (.float v)) s.heap H) :
    W p l e R s m args below meth c H locs cells slots (vx_MQ below (zz_Qc Q B) (zz_XC X) args s mc ms B) (F0 m pc ls [.float v]) :=
  W.widen hc hs (vx_ret (W.fret hx hb hr (fun t ht _ => ⟨_, rfl, by rw [ht]; exact hq, by rw [ht]; exact ⟨hS.1, hS.2.1⟩⟩) hS.2.2 hdg hlocks))
theorem zz_aret {rx : Option Nat} {rt : FieldType} (hx : p.tables.exec = Jvm.exec) (hb : c.code = cc) (hr : meth.sig.returnType = some rt) (hrt : (∃ n, rt = .object n) ∨ ∃ t, rt = .array t) (hlocks : meth.locks = false) (hS : va_S B s.heap H locs) (hc : cells ≤ mc) (hs : slots ≤ ms) (hdg : decode cc pc = .ok (.areturn, 1)) (hq : Q (some (va_rf rx)) s.heap H) :
    W p l e R s m args below meth c H locs cells slots (vx_MQ below (zz_Qc Q B) (zz_XC X) args s mc ms B) (F0 m pc ls [va_rf rx]) :=
  W.widen hc hs (vx_ret (W.aret hx hb hr hrt (by cases rx with | none => exact Or.inl rfl | some a => exact Or.inr ⟨a, rfl⟩) (fun t ht _ => ⟨_, rfl, by rw [ht]; exact hq, by rw [ht]; exact ⟨hS.1, hS.2.1⟩⟩) hS.2.2 hdg hlocks))
end ZR
/-- what a call wants of its callee's words and room -/
theorem zz_cb {own : String} {index : Nat} {y : MethodName} {cy : ByteArray} {ny : Nat} {ry : Option FieldType} {rm : Room} {k : Nat} (hts : ∀ w ∈ zz_BW, w.before args s = true) (hlink : Cond.methodLink own index y ∈ zz_BW) (hini : Cond.initialized y.cls ∈ zz_BW) (hcode : Cond.code y cy ny ry ∈ zz_BW)
    (hd : y.cls ≠ "java/lang/invoke/MethodHandle" ∧ y.cls ≠ "java/lang/invoke/VarHandle" ∧ (parseMethodDescriptor y.desc).map (fun d => d.parameters.length) = some k) (hR : rm.frames + 1 ≤ R.frames ∧ 8 + (ny + 11) + rm.locals ≤ R.locals) :
    CallB R s args own index y cy ny ry (zz_ws y cy ny ry) rm rm.cells rm.slots k := by
  refine ⟨rfl, rfl, hR.1, hR.2, ?_, List.mem_cons_self, hts _ hcode, hts _ hini, ⟨hd.1, hd.2.1⟩, fun sig h => ?_, hts _ hlink⟩
  · intro w hw a' U hW
    have hm : w ∈ zz_BW := (List.mem_cons.mp hw).elim (fun e => e ▸ hcode) id
    exact word_at hW (good_of_word (List.mem_filter.mp hm).2) (hts w hm)
  · have h2 := hd.2.2
    rw [h] at h2
    exact (Option.some.inj h2).symm
theorem zz_pre {as : List Value} {P : Heap → Prop} (hE : zz_E K A s H) (hA : ∀ q : Nat, H.size ≤ q → A q) (hP : P H) : ∀ U : State, U.heap = H → s.WarmedH U.vm → zz_Pc K A as P as.toArray U := fun U hU hW => ⟨rfl, by rw [hU]; exact zz_E.moved hW hE, by rw [hU]; exact hA, by rw [hU]; exact hP⟩
theorem zz_rc {a ci : Nat} {q : vw_C} {fs : List Value} (hK : va_K K.1 vwCl (zz_ty K) s) (h : zz_at K a (.inr (ci, fs)) H) (hc : vwCl[ci]? = some q) : ∃ cell : Cell, H[a]? = some cell ∧ cell.vm.isStatics = false ∧ s.vm.findClass q.1 = some cell.cls := by
  obtain ⟨q', h1, cell, g1, g2, g3, -⟩ := h
  exact ⟨cell, g1, by rw [g3]; rfl, by rw [g2]; exact (hK.1 ci q hc).2.1⟩
/-- behind a call of a method that throws nothing -/
theorem zz_after {g : JFrame} {a : Array Value} {Q : Option Value → Heap → Heap → Prop} (hg : g = F0 m pc ls st0) (hr : vx_Run p l e R s m args below meth c H locs cells slots mc ms g rest (zz_Qc Q B a) (zz_XC zz_nx) B) (hS : va_S A H0 H locs) (hB : ∀ q, B q → A q)
    (kk : ∀ (v : Option Value) (H1 : Heap) (locs1 : List Loc), Q v H H1 → zz_fr B H H1 → va_S A H0 H1 locs1 → W p l e R s m args below meth c H1 locs1 (cells + mc) (slots + ms) Qf (F0 m (pc + 3) ls (v.toList ++ rest))) : W p l e R s m args below meth c H locs cells slots Qf g := by
  subst hg
  intro T hT X
  rcases hr T hT X with ⟨v, st₀, t, T', L, h0, X', hL, e1, e2, ⟨v', hv, hq, hF⟩, st⟩ | ⟨q, st₀, t, T', L, E, ce, h0, X', hL, e1, e2, ⟨hx, -⟩, -⟩
  · cases hv
    rw [h0, ← e1] at hq hF
    obtain ⟨t2, a1, b1⟩ := kk v T'.heap (locs ++ L) hq hF
      ⟨Nat.le_trans hS.1 hF.1, fun q h1 h2 => (hF.2 q (Nat.lt_of_lt_of_le h1 hS.1) (fun z => h2 (hB q z))).trans (hS.2.1 q h1 h2), fun q hq => by
        rcases List.mem_append.mp hq with h | h
        · exact hS.2.2 q h
        · exact hB _ (hL q h)⟩ T' rfl X'
    exact ⟨t2, st t2 a1, b1⟩
  · exact hx.elim
/-- behind a call of a method that may throw, in a method without handlers that has written nothing -/
theorem zz_afterX {g : JFrame} {a : Array Value} {Q Qm : Option Value → Heap → Heap → Prop} {X Xm : String → Heap → Heap → Prop} {Bm : Nat → Prop} {mcm msm : Nat} (hg : g = F0 m pc ls st0) (hr : vx_Run p l e R s m args below meth c H locs cells slots mc ms g rest (zz_Qc Q B a) (zz_XC X) B) (hS : va_S zz_no s.heap H locs) (hB : ∀ q, B q → A q)
    (htab : ∀ x ∈ c.exceptionTable.toList, False) (hlocks : meth.locks = false) (hcm : cells + mc ≤ mcm) (hsm : slots + ms ≤ msm)
    (kx : ∀ (E : String) (H1 : Heap), X E H H1 → zz_fr zz_no s.heap H1 → Xm E s.heap H1)
    (kk : ∀ (v : Option Value) (H1 : Heap) (locs1 : List Loc), Q v H H1 → zz_fr B H H1 → va_S A s.heap H1 locs1 → W p l e R s m args below meth c H1 locs1 (cells + mc) (slots + ms) (vx_MQ below (zz_Qc Qm Bm) (zz_XC Xm) args s mcm msm Bm) (F0 m (pc + 3) ls (v.toList ++ rest))) (hBm : ∀ q, B q → Bm q) : W p l e R s m args below meth c H locs cells slots (vx_MQ below (zz_Qc Qm Bm) (zz_XC Xm) args s mcm msm Bm) g := by
  subst hg
  intro T hT X1
  rcases hr T hT X1 with ⟨v, st₀, t, T', L, h0, X', hL, e1, e2, ⟨v', hv, hq, hF⟩, st⟩ | ⟨q, st₀, t, T', L, E, ce, h0, X', hL, e1, e2, ⟨hx, hF⟩, hce, hcv, hcl, st⟩
  · cases hv
    rw [h0, ← e1] at hq hF
    obtain ⟨t2, a1, b1⟩ := kk v T'.heap (locs ++ L) hq hF
      ⟨Nat.le_trans hS.1 hF.1, fun q h1 h2 => (hF.2 q (Nat.lt_of_lt_of_le h1 hS.1) (fun z => h2 (hB q z))).trans (hS.2.1 q h1 (fun z => z)), fun q hq => by
        rcases List.mem_append.mp hq with h | h
        · exact (hS.2.2 q h).elim
        · exact hB _ (hL q h)⟩ T' rfl X'
    exact ⟨t2, st t2 a1, b1⟩
  · rw [h0, ← e1] at hx hF
    have hF2 : zz_fr zz_no s.heap T'.heap := ⟨Nat.le_trans hS.1 hF.1, fun q h1 h2 => (hF.2 q (Nat.lt_of_lt_of_le h1 hS.1) h2).trans (hS.2.1 q h1 h2)⟩
    obtain ⟨t2, a1, b1⟩ := vx_out (Qc := zz_Qc Qm Bm) (XC := zz_XC Xm) (rest := rest) (ls := ls) (pc := pc) (mc := mcm) (ms := msm) (free := Bm) (fun x hx => (htab x hx).elim) hlocks (by rw [e1]; exact hce) hcv hcl (fun t ht _ => ⟨by rw [ht]; exact kx E _ hx hF2, by rw [ht]; exact hF2⟩) (fun z hz => by
      rcases List.mem_append.mp hz with h | h
      · exact (hS.2.2 z h).elim
      · exact hBm _ (hL z h)) hcm hsm T' rfl X'
    exact ⟨t2, st.trans a1, b1⟩
section ZC
variable {own : String} {index nL ny : Nat} {y : MethodName} {cy : ByteArray} {ry : Option FieldType} {rm : Room} {b ci : Nat} {As : List Value} {P : Heap → Prop} {Q : Option Value → Heap → Heap → Prop} {X : String → Heap → Heap → Prop} {fs : List Value} {q0 : vw_C}
theorem zz_runV (hx : p.tables.exec = Jvm.exec) (hb : c.code = cc) (hml : c.maxLocals = nL) (hown : s.vm.findClass own = some m.cls) (hts : ∀ w ∈ zz_BW, w.before args s = true) (hM : zz_C l y cy ny ry rm K A (.ref b :: As) P Q X B)
    (hlink : Cond.methodLink own index y ∈ zz_BW) (hin : Cond.instanceMethod y ∈ zz_BW) (hsel : Cond.selects y.cls y y ∈ zz_BW) (hini : Cond.initialized y.cls ∈ zz_BW) (hcode : Cond.code y cy ny ry ∈ zz_BW)
    (hd : y.cls ≠ "java/lang/invoke/MethodHandle" ∧ y.cls ≠ "java/lang/invoke/VarHandle" ∧ (parseMethodDescriptor y.desc).map (fun d => d.parameters.length) = some As.length) (hR : rm.frames + 1 ≤ R.frames ∧ 8 + (ny + 11) + rm.locals ≤ R.locals)
    (hE : zz_E K A s H) (hA : ∀ q : Nat, H.size ≤ q → A q) (hrc : zz_at K b (.inr (ci, fs)) H) (hc : vwCl[ci]? = some q0) (hq0 : q0.1 = y.cls) (hP : P H) (hsize : ls.size = nL) (hW : (rest.map fun v => v.category).sum ≤ 8) (hdg : decode cc pc = .ok (.invokevirtual index, 3)) (hf : cells + rm.cells ≤ R.cells ∧ slots + rm.slots ≤ R.slots) :
    vx_Run p l e R s m args below meth c H locs cells slots rm.cells rm.slots (F0 m pc ls (As.reverse ++ .ref b :: rest)) rest (zz_Qc Q B (Value.ref b :: As).toArray) (zz_XC X) B :=
  vx_runV (cc := cc) (nL := nL) (own := own) (C := y.cls) ⟨hx, hb, hml, hown, hts⟩ hM ⟨zz_cb hts hlink hini hcode hd hR, hts _ hin, hts _ hsel⟩ ⟨zz_blind, hq0 ▸ zz_rc hE.K hrc hc, zz_pre hE hA hP⟩ rfl rfl hsize rfl (lv_room hW) hdg hf
theorem zz_runS (hx : p.tables.exec = Jvm.exec) (hb : c.code = cc) (hml : c.maxLocals = nL) (hown : s.vm.findClass own = some m.cls) (hts : ∀ w ∈ zz_BW, w.before args s = true) (hM : zz_C l y cy ny ry rm K A As P Q X B)
    (hlink : Cond.methodLink own index y ∈ zz_BW) (hst : Cond.static y ∈ zz_BW) (hini : Cond.initialized y.cls ∈ zz_BW) (hcode : Cond.code y cy ny ry ∈ zz_BW)
    (hd : y.cls ≠ "java/lang/invoke/MethodHandle" ∧ y.cls ≠ "java/lang/invoke/VarHandle" ∧ (parseMethodDescriptor y.desc).map (fun d => d.parameters.length) = some As.length) (hR : rm.frames + 1 ≤ R.frames ∧ 8 + (ny + 11) + rm.locals ≤ R.locals)
    (hE : zz_E K A s H) (hA : ∀ q : Nat, H.size ≤ q → A q) (hP : P H) (hsize : ls.size = nL) (hW : (rest.map fun v => v.category).sum ≤ 8) (hdg : decode cc pc = .ok (.invokestatic index, 3)) (hf : cells + rm.cells ≤ R.cells ∧ slots + rm.slots ≤ R.slots) :
    vx_Run p l e R s m args below meth c H locs cells slots rm.cells rm.slots (F0 m pc ls (As.reverse ++ rest)) rest (zz_Qc Q B As.toArray) (zz_XC X) B :=
  vx_runS (cc := cc) (nL := nL) (own := own) ⟨hx, hb, hml, hown, hts⟩ hM ⟨zz_cb hts hlink hini hcode hd hR, hts _ hst⟩ ⟨zz_blind, zz_pre hE hA hP⟩ rfl rfl hsize rfl (lv_room hW) hdg hf
theorem zz_runI (hx : p.tables.exec = Jvm.exec) (hb : c.code = cc) (hml : c.maxLocals = nL) (hown : s.vm.findClass own = some m.cls) (hts : ∀ w ∈ zz_BW, w.before args s = true) (hM : zz_C l y cy ny ry rm K A (.ref b :: As) P Q X B) (hry : ry = none) (hyn : y.name = "<init>")
    (hlink : Cond.methodLink own index y ∈ zz_BW) (hin : Cond.instanceMethod y ∈ zz_BW) (hini : Cond.initialized y.cls ∈ zz_BW) (hcode : Cond.code y cy ny ry ∈ zz_BW)
    (hd : y.cls ≠ "java/lang/invoke/MethodHandle" ∧ y.cls ≠ "java/lang/invoke/VarHandle" ∧ (parseMethodDescriptor y.desc).map (fun d => d.parameters.length) = some As.length) (hR : rm.frames + 1 ≤ R.frames ∧ 8 + (ny + 11) + rm.locals ≤ R.locals)
    (hE : zz_E K A s H) (hA : ∀ q : Nat, H.size ≤ q → A q) (hP : P H) (hsize : ls.size = nL) (hW : (rest.map fun v => v.category).sum ≤ 8) (hdg : decode cc pc = .ok (.invokespecial index, 3)) (hf : cells + rm.cells ≤ R.cells ∧ slots + rm.slots ≤ R.slots) :
    vx_Run p l e R s m args below meth c H locs cells slots rm.cells rm.slots (F0 m pc ls (As.reverse ++ .ref b :: rest)) rest (zz_Qc Q B (Value.ref b :: As).toArray) (zz_XC X) B := by
  subst hry
  exact vx_runI (cc := cc) (nL := nL) (own := own) ⟨hx, hb, hml, hown, hts⟩ hM ⟨zz_cb hts hlink hini hcode hd hR, hyn, hts _ hin⟩ ⟨zz_blind, zz_pre hE hA hP⟩ rfl rfl hsize rfl (lv_room hW) hdg hf
end ZC
end ZB
