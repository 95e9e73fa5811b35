/-! the law: contracts of methods with handlers, what stands between two of its calls -/
abbrev zz_wsH (y : MethodName) (cc : ByteArray) (n : Nat) (r : Option FieldType) (hh : List (Nat × Nat × Nat × Nat)) : List Cond := .codeWith y cc n r hh :: zz_BW
def zz_CH (l : Launch) (y : MethodName) (cc : ByteArray) (n : Nat) (r : Option FieldType) (hh : List (Nat × Nat × Nat × Nat)) (rm : Room) (K : zz_G) (A : Nat → Prop) (as : List Value) (P : Heap → Prop) (Q : Option Value → Heap → Heap → Prop) (B : Nat → Prop) : Prop :=
  vx_Met l y (zz_wsH y cc n r hh) rm (zz_Pc K A as P) (zz_Qc Q B) (zz_XC zz_nx) rm.cells rm.slots B
theorem zz_bodyH {l : Launch} {cc : ByteArray} {K : zz_G} {A B : Nat → Prop} {y : MethodName} {n : Nat} {r : Option FieldType} {hh : List (Nat × Nat × Nat × Nat)} {rm : Room} {as : List Value} {P : Heap → Prop} {Q : Option Value → Heap → Heap → Prop} (hy : plainName y.cls = true) (hn : (lg_sl as).length ≤ n)
    (body : ∀ (p : Program) (e : Env) (s : State) (m : MethodId) (below : List Frame) (meth : Method) (c : Code) (ls : Array Slot), p.tables.exec = Jvm.exec → c.code = cc → meth.sig.returnType = r → c.maxLocals = n → (∀ w ∈ zz_BW, w.before as.toArray s = true) → s.vm.findClass y.cls = some m.cls → meth.locks = false → c.exceptionTable.toList = tableOf hh →
      zz_E K A s s.heap → (∀ q : Nat, s.heap.size ≤ q → A q) → P s.heap → lv_has ls n (lv_args 0 as) → W p l e rm s m as.toArray below meth c s.heap [] 0 0 (vx_MQ below (zz_Qc Q B) (zz_XC zz_nx) as.toArray s rm.cells rm.slots B) (F0 m 0 ls [])) : zz_CH l y cc n r hh rm K A as P Q B := by
  refine vx_ofWH hy rfl ?_
  intro p e s m args below meth c s₁ B' hml hv
  obtain ⟨rfl, hE, hA, hP⟩ := hv
  rw [lg_entry_eq]
  have hts0 := atoms_spec (ws := zz_wsH y cc n r hh) B'.pre
  exact body p e s m below meth c _ B'.exec B'.bytes B'.returns hml (fun w hw => hts0 w (List.mem_cons_of_mem _ hw)) (findClass_of_methodNamed B'.named) B'.notSynchronized (vx_table (x := y) B' (hts0 _ List.mem_cons_self)) hE hA hP (lv_entry as hn)
section ZLH
variable {p : Program} {l : Launch} {e : Env} {R : Room} {s : State} {m : MethodId} {args : Array Value} {below : List Frame} {meth : Method} {c : Code} {H : Heap} {locs : List Loc} {cells slots : Nat} {Qf : State → Prop}
variable {cc : ByteArray} {pc : Nat} {ls : Array Slot} {rest st0 : List Value} {K : zz_G} {A B : Nat → Prop} {H0 : Heap} {mc ms : Nat}
/-- behind a call that may throw, in a method that may catch -/
theorem zz_afterH {g : JFrame} {a : Array Value} {Q : Option Value → Heap → Heap → Prop} {X : String → Heap → Heap → Prop} (hg : g = F0 m pc ls st0) (hr : vx_Run p l e R s m args below meth c H locs cells slots mc ms g rest (zz_Qc Q B a) (zz_XC X) B) (hS : va_S A H0 H locs) (hB : ∀ q, B q → A q)
    (kx : ∀ (E : String) (ce : Cell) (q : Addr) (H1 : Heap) (locs1 : List Loc), X E H H1 → zz_fr zz_no H H1 → H1[q]? = some ce → ce.vm = .none → s.vm.findClass E = some ce.cls → va_S A H0 H1 locs1 → vx_W p l e R s m args below meth c H1 locs1 (cells + mc) (slots + ms) Qf (F0 m pc ls rest) q)
    (kk : ∀ (v : Option Value) (H1 : Heap) (locs1 : List Loc), Q v H H1 → zz_fr B H H1 → va_S A H0 H1 locs1 → W p l e R s m args below meth c H1 locs1 (cells + mc) (slots + ms) Qf (F0 m (pc + 3) ls (v.toList ++ rest))) : W p l e R s m args below meth c H locs cells slots Qf g := by
  subst hg
  intro T hT X1
  rcases hr T hT X1 with ⟨v, st₀, t, T', L, h0, X', hL, e1, e2, ⟨v', hv, hq, hF⟩, st⟩ | ⟨q, st₀, t, T', L, E, ce, h0, X', hL, e1, e2, ⟨hx, hF⟩, hce, hcv, hcl, st⟩
  · cases hv
    rw [h0, ← e1] at hq hF
    obtain ⟨t2, a1, b1⟩ := kk v T'.heap (locs ++ L) hq hF
      ⟨Nat.le_trans hS.1 hF.1, fun q h1 h2 => (hF.2 q (Nat.lt_of_lt_of_le h1 hS.1) (fun z => h2 (hB q z))).trans (hS.2.1 q h1 h2), fun q hq => by
        rcases List.mem_append.mp hq with h | h
        · exact hS.2.2 q h
        · exact hB _ (hL q h)⟩ T' rfl X'
    exact ⟨t2, st t2 a1, b1⟩
  · rw [h0, ← e1] at hx hF
    obtain ⟨t2, a1, b1⟩ := kx E ce q T'.heap (locs ++ L) hx hF (by rw [e1]; exact hce) hcv hcl
      ⟨Nat.le_trans hS.1 hF.1, fun q h1 h2 => (hF.2 q (Nat.lt_of_lt_of_le h1 hS.1) (fun z => z)).trans (hS.2.1 q h1 h2), fun q hq => by
        rcases List.mem_append.mp hq with h | h
        · exact hS.2.2 q h
        · exact hB _ (hL q h)⟩ T' rfl X'
    exact ⟨t2, st.trans a1, b1⟩
theorem zz_runSH {own : String} {index nL ny : Nat} {y : MethodName} {cy : ByteArray} {ry : Option FieldType} {hh : List (Nat × Nat × Nat × Nat)} {rm : Room} {As : List Value} {P : Heap → Prop} {Q : Option Value → Heap → Heap → Prop} (hx : p.tables.exec = Jvm.exec) (hb : c.code = cc) (hml : c.maxLocals = nL) (hown : s.vm.findClass own = some m.cls) (hts : ∀ w ∈ zz_BW, w.before args s = true) (hM : zz_CH l y cy ny ry hh rm K A As P Q B)
    (hlink : Cond.methodLink own index y ∈ zz_BW) (hst : Cond.static y ∈ zz_BW) (hini : Cond.initialized y.cls ∈ zz_BW) (hcode : Cond.codeWith y cy ny ry hh ∈ zz_BW)
    (hd : y.cls ≠ "java/lang/invoke/MethodHandle" ∧ y.cls ≠ "java/lang/invoke/VarHandle" ∧ (parseMethodDescriptor y.desc).map (fun d => d.parameters.length) = some As.length) (hR : rm.frames + 1 ≤ R.frames ∧ 8 + (ny + 11) + rm.locals ≤ R.locals)
    (hE : zz_E K A s H) (hA : ∀ q : Nat, H.size ≤ q → A q) (hP : P H) (hsize : ls.size = nL) (hW : (rest.map fun v => v.category).sum ≤ 8) (hdg : decode cc pc = .ok (.invokestatic index, 3)) (hf : cells + rm.cells ≤ R.cells ∧ slots + rm.slots ≤ R.slots) :
    vx_Run p l e R s m args below meth c H locs cells slots rm.cells rm.slots (F0 m pc ls (As.reverse ++ rest)) rest (zz_Qc Q B As.toArray) (zz_XC zz_nx) B := by
  refine vx_runSX (cc := cc) (nL := nL) (own := own) ⟨hx, hb, hml, hown, hts⟩ hM ⟨⟨rfl, rfl, hR.1, hR.2, ?_, List.mem_cons_self⟩, hts _ hcode, hts _ hini, ⟨hd.1, hd.2.1⟩, fun sig h => ?_, hts _ hlink, hts _ hst⟩ ⟨zz_blind, zz_pre hE hA hP⟩ rfl rfl hsize rfl (lv_room hW) hdg hf
  · intro w hw a' U hW
    have hm : w ∈ zz_BW := (List.mem_cons.mp hw).elim (fun e => e ▸ hcode) id
    exact word_at hW (good_of_word (List.mem_filter.mp hm).2) (hts w hm)
  · have h2 := hd.2.2
    rw [h] at h2
    exact (Option.some.inj h2).symm
/-- caught: the handler's row of the table, those ahead name other exceptions -/
theorem zz_catch {own E : String} {hpc ct : Nat} {ce : Cell} {q : Addr} {hh : List (Nat × Nat × Nat × Nat)} (hown : s.vm.findClass own = some m.cls) (hts : ∀ w ∈ zz_BW, w.before args s = true) (hE : zz_E K A s H0) (htab : c.exceptionTable.toList = tableOf hh) (k0 : Nat) {a0 b0 : Nat} (hk : hh[k0]? = some (a0, b0, hpc, ct)) (hcov : a0 ≤ pc ∧ pc < b0) (h0 : ct ≠ 0) (hEx : E ∈ zz_ex)
    (hpre : ∀ z ∈ hh.take k0, ∃ nm, z.2.2.2 ≠ 0 ∧ Cond.classLink own z.2.2.2 nm ∈ zz_BW ∧ nm ∈ zz_ex ∧ E ≠ nm) (hlink : Cond.classLink own ct E ∈ zz_BW) (hcast : Cond.castable E E ∈ zz_ng) (hcell : H[q]? = some ce) (hv : ce.vm = .none) (hcl : s.vm.findClass E = some ce.cls)
    (kk : W p l e R s m args below meth c H locs cells slots Qf (F0 m hpc ls [.ref q])) : vx_W p l e R s m args below meth c H locs cells slots Qf (F0 m pc ls rest) q := by
  obtain ⟨hl, hge⟩ := List.getElem?_eq_some_iff.mp hk
  have hsp : hh = hh.take k0 ++ hh[k0] :: hh.drop (k0 + 1) := by
    rw [← List.drop_eq_getElem_cons hl, List.take_append_drop]
  have hno : ∀ z ∈ tableOf (hh.take k0), covers z pc = false ∨ (z.catchType ≠ 0 ∧ ∃ nm : String, (Cond.classLink own z.catchType nm).before args s = true ∧ va_Nc E nm s) := fun z hz => by
    obtain ⟨z0, hz0, rfl⟩ := List.mem_map.mp hz
    obtain ⟨nm, g1, g2, g3, g4⟩ := hpre z0 hz0
    exact Or.inr ⟨g1, nm, hts _ g2, hE.1.2.2.2.2.2.2 E hEx nm g3 g4⟩
  refine vx_catch (name := E) hown (tableOf (hh.take k0)) ⟨a0, b0, hpc, ct⟩ (tableOf (hh.drop (k0 + 1))) ?_ hno ?_ h0 (hts _ hlink) (va_Nw.use rfl (hE.N _ hcast)) hcell hv hcl kk
  · rw [htab]
    conv => lhs; rw [hsp, hge]
    simp [tableOf]
  · simp [covers, hcov.1, hcov.2]
end ZLH
/-! the two worlds side by side -/
def lw_A (s : State) : Nat → Prop := fun q => s.heap.size ≤ q
def lw_X (s : State) (om : Nat) : Nat → Prop := fun q => s.heap.size ≤ q ∧ ¬ (om ≤ q ∧ q < om + 16)
def zv_ad (om : Nat) : Nat → Nat → Nat := fun k i => if k = 0 then om else om + 1 + i
def zv_X (K : zz_G) (A : Nat → Prop) (ox : Nat) (N : zN) (G : Nat → Nat → Int32) (L : Nat → Int64) (H : Heap) : Prop := ∃ ad E cap, ad 0 0 = ox ∧ zk K ad cap N ∧ zz_W K A ad (zx_c K ad E cap N G L) H
def zv_M (K : zz_G) (om : Nat) (th : Int32) (N : zN) (G : Nat → Nat → Int32) (L : Nat → Int64) (H : Heap) : Prop := zz_W K (fun q => om ≤ q ∧ q < om + 14) (zv_ad om) (zm_c K (zv_ad om) th N G L) H
def zv_lo (K : zz_G) (ol : Nat) (v : Int64) (H : Heap) : Prop := ∃ f, zz_at K ol (.inl (K.2.1 3, 1, .inr (.inl f))) H ∧ f 0 = v
def zv_do (K : zz_G) (od : Nat) (v : UInt64) (H : Heap) : Prop := ∃ f, zz_at K od (.inl (K.2.1 4, 1, .inr (.inr (.inr (.inl f))))) H ∧ f 0 = v
section ZLW
variable {K : zz_G} {A : Nat → Prop} {s : State} {om ox : Nat} {N : zN} {G : Nat → Nat → Int32} {L : Nat → Int64} {H H1 : Heap} {th : Int32}
theorem zz_W.keep {B : Nat → Prop} {ad : Nat → Nat → Nat} {w : Nat → Nat → Option va_E} (h : zz_W K A ad w H) (f : zz_fr B H H1) (hb : ∀ q, A q → q < H.size → ¬ B q) : zz_W K A ad w H1 := h.fr f hb
theorem zz_W.onto {B : Nat → Prop} {ad : Nat → Nat → Nat} {w : Nat → Nat → Option va_E} (h : zz_W K A ad w H) (hb : ∀ k i e, w k i = some e → B (ad k i)) : zz_W K B ad w H := ⟨fun k i e he => ⟨(h.1 k i e he).1, hb k i e he⟩, h.2⟩
theorem zv_mb {k i : Nat} {e : va_E} (h : zm_c K (zv_ad om) th N G L k i = some e) : om ≤ zv_ad om k i ∧ zv_ad om k i < om + 14 := by
  match k, i with
  | 0, 0 => exact ⟨Nat.le_refl _, by unfold zv_ad; rw [if_pos rfl]; omega⟩
  | 0, i + 1 => simp [zm_c] at h
  | 1, 0 | 1, 1 | 1, 2 | 1, 3 | 1, 4 | 1, 5 | 1, 6 | 1, 7 | 1, 8 | 1, 9 | 1, 10 | 1, 11 | 1, 12 => exact ⟨by unfold zv_ad; rw [if_neg (by omega)]; omega, by unfold zv_ad; rw [if_neg (by omega)]; omega⟩
  | 1, j + 13 => exact absurd h (by show ¬ (none = some e); exact fun z => nomatch z)
  | k + 2, i => simp [zm_c] at h
/-- what a call of the reference may write -/
def lw_M (om : Nat) (H : Heap) : Nat → Prop := fun q => (om ≤ q ∧ q < om + 14) ∨ H.size ≤ q
theorem zv_M.wide (h : zv_M K om th N G L H) : zz_W K (lw_M om H) (zv_ad om) (zm_c K (zv_ad om) th N G L) H := zz_W.onto h (fun _ _ _ he => Or.inl (zv_mb he))
theorem zv_M.slim {H0 : Heap} (h : zz_W K (lw_M om H0) (zv_ad om) (zm_c K (zv_ad om) th N G L) H) : zv_M K om th N G L H := zz_W.onto h (fun _ _ _ he => zv_mb he)
theorem zv_X.fr {B : Nat → Prop} (h : zv_X K A ox N G L H) (f : zz_fr B H H1) (hb : ∀ q, A q → q < H.size → ¬ B q) : zv_X K A ox N G L H1 := by
  obtain ⟨ad, E, cap, h1, h2, h3⟩ := h
  exact ⟨ad, E, cap, h1, h2, h3.fr f hb⟩
theorem zv_lo.fr {B : Nat → Prop} {ol : Nat} {v : Int64} (h : zv_lo K ol v H) (f : zz_fr B H H1) (hb : ¬ B ol) : zv_lo K ol v H1 := by
  obtain ⟨g, h1, h2⟩ := h
  exact ⟨g, zz_at.fr h1 f hb, h2⟩
theorem zv_do.fr {B : Nat → Prop} {od : Nat} {v : UInt64} (h : zv_do K od v H) (f : zz_fr B H H1) (hb : ¬ B od) : zv_do K od v H1 := by
  obtain ⟨g, h1, h2⟩ := h
  exact ⟨g, zz_at.fr h1 f hb, h2⟩
/-- what stands between two calls of the law -/
def zv_I (K : zz_G) (s : State) (om : Nat) (th : Int32) (vl : Int64) (vd : UInt64) (N : zN) (G : Nat → Nat → Int32) (L : Nat → Int64) (N' : zN) (G' : Nat → Nat → Int32) (L' : Nat → Int64) (H : Heap) : Prop :=
  (s.heap.size < om ∧ om + 16 ≤ H.size) ∧ zz_E K (lw_A s) s H ∧ zv_X K (lw_X s om) s.heap.size N G L H ∧ zv_M K om th N' G' L' H ∧ zv_lo K (om + 14) vl H ∧ zv_do K (om + 15) vd H
variable {vl vl' : Int64} {vd vd' : UInt64} {N' N2 : zN} {G' G2 : Nat → Nat → Int32} {L' L2 : Nat → Int64} {th' : Int32}
theorem lw_XA : ∀ q, lw_X s om q → lw_A s q := fun _ h => h.1
theorem zv_I.nx (h : zv_I K s om th vl vd N G L N' G' L' H) : ∀ q : Nat, H.size ≤ q → lw_X s om q := fun q hq => by
  have := h.1
  exact ⟨by show s.heap.size ≤ q; omega, by omega⟩
theorem zv_I.na (h : zv_I K s om th vl vd N G L N' G' L' H) : ∀ q : Nat, H.size ≤ q → lw_A s q := fun q hq => (h.nx q hq).1
theorem zv_I.ma (h : zv_I K s om th vl vd N G L N' G' L' H) : ∀ q, lw_M om H q → lw_A s q := fun q z => by
  have := h.1
  rcases z with z | z
  · show s.heap.size ≤ q; omega
  · exact h.na q z
/-- behind a call of the class -/
theorem zv_I.onX (h : zv_I K s om th vl vd N G L N' G' L' H) (f : zz_fr (lw_X s om) H H1) (hX : zv_X K (lw_X s om) s.heap.size N2 G2 L2 H1) : zv_I K s om th vl vd N2 G2 L2 N' G' L' H1 := by
  obtain ⟨h1, h2, h3, h4, h5, h6⟩ := h
  refine ⟨⟨h1.1, Nat.le_trans h1.2 f.1⟩, h2.kept (fun a ha hn => f.2 a ha (fun z => hn z.1)), hX, zz_W.fr h4 f (fun q hq _ z => z.2 ⟨hq.1, by omega⟩), h5.fr f (fun z => z.2 ⟨by omega, by omega⟩), h6.fr f (fun z => z.2 ⟨by omega, by omega⟩)⟩
/-- behind a call of the reference -/
theorem zv_I.onM (h : zv_I K s om th vl vd N G L N' G' L' H) (f : zz_fr (lw_M om H) H H1) (hM : zv_M K om th' N2 G2 L2 H1) : zv_I K s om th' vl vd N G L N2 G2 L2 H1 := by
  have hma := h.ma
  obtain ⟨h1, h2, h3, h4, h5, h6⟩ := h
  refine ⟨⟨h1.1, Nat.le_trans h1.2 f.1⟩, h2.kept (fun a ha hn => f.2 a ha (fun z => hn (hma a z))), h3.fr f (fun q hq hl z => ?_), hM, h5.fr f (fun z => ?_), h6.fr f (fun z => ?_)⟩
  · rcases z with z | z
    · exact hq.2 ⟨z.1, by omega⟩
    · omega
  · rcases z with z | z <;> omega
  · rcases z with z | z <;> omega
/-- a helper may write the class's cells and its row -/
def lw_L (s : State) (om o : Nat) : Nat → Prop := fun q => lw_X s om q ∨ q = o
theorem zv_I.la (h : zv_I K s om th vl vd N G L N' G' L' H) {o : Nat} (ho : o = om + 14 ∨ o = om + 15) : ∀ q, lw_L s om o q → lw_A s q := fun q z => by
  have := h.1
  rcases z with z | z
  · exact z.1
  · show s.heap.size ≤ q; omega
theorem zv_I.onL (h : zv_I K s om th vl vd N G L N' G' L' H) (f : zz_fr (lw_L s om (om + 14)) H H1) (hX : zv_X K (lw_X s om) s.heap.size N2 G2 L2 H1) (hl : zv_lo K (om + 14) vl' H1) : zv_I K s om th vl' vd N2 G2 L2 N' G' L' H1 := by
  have hla := h.la (o := om + 14) (Or.inl rfl)
  obtain ⟨h1, h2, h3, h4, h5, h6⟩ := h
  refine ⟨⟨h1.1, Nat.le_trans h1.2 f.1⟩, h2.kept (fun a ha hn => f.2 a ha (fun z => hn (hla a z))), hX, zz_W.fr h4 f (fun q hq _ z => ?_), hl, h6.fr f (fun z => ?_)⟩
  · rcases z with z | z
    · exact z.2 ⟨hq.1, by omega⟩
    · omega
  · rcases z with z | z
    · exact z.2 ⟨by omega, by omega⟩
    · omega
theorem zv_I.onD (h : zv_I K s om th vl vd N G L N' G' L' H) (f : zz_fr (lw_L s om (om + 15)) H H1) (hX : zv_X K (lw_X s om) s.heap.size N2 G2 L2 H1) (hl : zv_do K (om + 15) vd' H1) : zv_I K s om th vl vd' N2 G2 L2 N' G' L' H1 := by
  have hla := h.la (o := om + 15) (Or.inr rfl)
  obtain ⟨h1, h2, h3, h4, h5, h6⟩ := h
  refine ⟨⟨h1.1, Nat.le_trans h1.2 f.1⟩, h2.kept (fun a ha hn => f.2 a ha (fun z => hn (hla a z))), hX, zz_W.fr h4 f (fun q hq _ z => ?_), h5.fr f (fun z => ?_), hl⟩
  · rcases z with z | z
    · exact z.2 ⟨hq.1, by omega⟩
    · omega
  · rcases z with z | z
    · exact z.2 ⟨by omega, by omega⟩
    · omega
theorem zv_I.nl (h : zv_I K s om th vl vd N G L N' G' L' H) (o : Nat) : ∀ q : Nat, H.size ≤ q → lw_L s om o q := fun q hq => Or.inl (h.nx q hq)
end ZLW
