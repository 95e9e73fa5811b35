/-! own layer: words of the fields, throws, the invariant -/
theorem zf_X0 : ∀ w ∈ u_ws RX0 TX0 7, w ∈ zz_BW := fun w hw => List.mem_filter.mpr ⟨List.mem_append_right _ ((show ∀ w ∈ u_ws RX0 TX0 7, w ∈ tables_1 by decide +kernel) w hw), (show ∀ w ∈ u_ws RX0 TX0 7, goodWord w = true by decide +kernel) w hw⟩
theorem zf_X1 : ∀ w ∈ u_ws RX1 TX1 7, w ∈ zz_BW := fun w hw => List.mem_filter.mpr ⟨List.mem_append_right _ ((show ∀ w ∈ u_ws RX1 TX1 7, w ∈ tables_1 by decide +kernel) w hw), (show ∀ w ∈ u_ws RX1 TX1 7, goodWord w = true by decide +kernel) w hw⟩
theorem zf_X2 : ∀ w ∈ u_ws RX2 TX2 8, w ∈ zz_BW := fun w hw => List.mem_filter.mpr ⟨List.mem_append_right _ ((show ∀ w ∈ u_ws RX2 TX2 8, w ∈ tables_1 by decide +kernel) w hw), (show ∀ w ∈ u_ws RX2 TX2 8, goodWord w = true by decide +kernel) w hw⟩
theorem zf_X3 : ∀ w ∈ u_ws RX3 TX3 22, w ∈ zz_BW := fun w hw => List.mem_filter.mpr ⟨List.mem_append_right _ ((show ∀ w ∈ u_ws RX3 TX3 22, w ∈ tables_1 by decide +kernel) w hw), (show ∀ w ∈ u_ws RX3 TX3 22, goodWord w = true by decide +kernel) w hw⟩
theorem zf_Jx4a65c : ∀ w ∈ u_ws RJx4a65c TJx4a65c 3, w ∈ zz_BW := fun w hw => List.mem_filter.mpr ⟨List.mem_append_right _ ((show ∀ w ∈ u_ws RJx4a65c TJx4a65c 3, w ∈ tables_1 by decide +kernel) w hw), (show ∀ w ∈ u_ws RJx4a65c TJx4a65c 3, goodWord w = true by decide +kernel) w hw⟩
abbrev zz_sup : List String := ["java/lang/RuntimeException", "java/lang/Exception"]
def zz_Hat (ic : Nat) (cls : String) : Prop := ∃ (ix : Nat) (rx : ByteArray), (decode rx 0 = .ok (.aload_n 0, 1) ∧ decode rx 1 = .ok (.aload_n 1, 1) ∧ decode rx 2 = .ok (.invokespecial ix, 3) ∧ decode rx 5 = .ok (.return_, 1)) ∧ Bundle.fit cls = true ∧ (∀ w ∈ zy_at RX2 ic cls ix rx, vx_ot w = true) ∧ ∀ w ∈ zy_at RX2 ic cls ix rx, (w ∈ tables_1 ∨ w ∈ k2_sels lw_privs) ∧ goodWord w = true ∨ w ∈ zz_ng ∧ w.onTables = true
theorem zx_45 : zz_Hat 45 "java/lang/IllegalArgumentException" := ⟨7, Bundle.six, ⟨by decide +kernel, by decide +kernel, by decide +kernel, by decide +kernel⟩, by decide +kernel, by decide +kernel, by decide +kernel⟩
theorem zx_60 : zz_Hat 60 "java/lang/IllegalStateException" := ⟨7, Bundle.six, ⟨by decide +kernel, by decide +kernel, by decide +kernel, by decide +kernel⟩, by decide +kernel, by decide +kernel, by decide +kernel⟩
theorem zx_128 : zz_Hat 128 "java/lang/IndexOutOfBoundsException" := ⟨7, Bundle.six, ⟨by decide +kernel, by decide +kernel, by decide +kernel, by decide +kernel⟩, by decide +kernel, by decide +kernel, by decide +kernel⟩
theorem zx_116 : zz_Hat 116 "java/util/NoSuchElementException" := ⟨13, prog_27_method_4_code, ⟨by decide +kernel, by decide +kernel, by decide +kernel, by decide +kernel⟩, by decide +kernel, by decide +kernel, by decide +kernel⟩
theorem zx_111 : zz_Hat 111 "java/lang/UnsupportedOperationException" := ⟨7, Bundle.six, ⟨by decide +kernel, by decide +kernel, by decide +kernel, by decide +kernel⟩, by decide +kernel, by decide +kernel, by decide +kernel⟩
theorem zx_221 : zz_Hat 221 "java/lang/ArithmeticException" := ⟨7, Bundle.six, ⟨by decide +kernel, by decide +kernel, by decide +kernel, by decide +kernel⟩, by decide +kernel, by decide +kernel, by decide +kernel⟩
section ZT
variable {p : Program} {l : Launch} {e : Env} {R : Room} {s : State} {m : MethodId} {args : Array Value} {below : List Frame} {meth : Method} {c : Code} {H : Heap} {locs : List Loc} {cells slots : Nat}
variable {cc : ByteArray} {pc : Nat} {ls : Array Slot} {rest : List Value} {K : zz_G} {A B : Nat → Prop} {mc ms nL : Nat}
theorem zz_throw {ik is ic : Nat} {cls text : String} {Q : Option Value → Heap → Heap → Prop} {X : String → Heap → Heap → Prop} (hx : p.tables.exec = Jvm.exec) (hb : c.code = cc) (hfl : l.stackTraces = false) (hown : s.vm.findClass RX2 = some m.cls) (hts : ∀ w ∈ zz_BW, w.before args s = true) (hE : zz_E K A s s.heap) (hh : zz_Hat ic cls) (hk : Cond.classLink RX2 ik cls ∈ zz_BW) (hini : Cond.initialized cls ∈ zz_BW) (hstr : ((is, text) : Nat × String) ∈ zz_str) (hS : va_S B s.heap H locs) (hBn : ∀ q, B q → zz_no q) (hsize : ls.size = nL) (hml : c.maxLocals = nL)
    (d0 : decode cc pc = .ok (.new ik, 3)) (d3 : decode cc (pc + 3) = .ok (.dup, 1)) (d4 : decode cc (pc + 4) = .ok (.ldc is, 2)) (d6 : decode cc (pc + 6) = .ok (.invokespecial ic, 3)) (d9 : decode cc (pc + 9) = .ok (.athrow, 1)) (htab : ∀ x ∈ c.exceptionTable.toList, False)
    (hRf : 5 < R.frames) (hRl : (rest.map fun v => v.category).sum + 82 ≤ R.locals) (hRc : cells + 1 ≤ R.cells) (hRs : slots + 6 ≤ R.slots) (hlocks : meth.locks = false) (hq : ∀ H9 : Heap, zz_fr zz_no s.heap H9 → X cls s.heap H9) (hc : cells + 1 ≤ mc) (hs : slots + 6 ≤ ms) {Bm : Nat → Prop} :
    W p l e R s m args below meth c H locs cells slots (vx_MQ below (zz_Qc Q Bm) (zz_XC X) args s mc ms Bm) (F0 m pc ls rest) := by
  obtain ⟨⟨h1, h2, h3, h4, h5, h6, h7⟩, hU, hN, -⟩ := hE
  obtain ⟨sa, hsa⟩ := h6 _ hstr
  obtain ⟨ix, rx, ⟨x0, x1, x2, x5⟩, hcls, hot, hat⟩ := hh
  have hno : ∀ {q : Nat}, ¬ B q := fun {q} h => hBn q h
  refine zz_throwSX (A := A) (ik := ik) (is := is) (ic := ic) ⟨x0, x1, x2, x5⟩ hx hb hfl hown hcls (hts _ hk) (hts _ hini) hsa (fun w hw => ?_) (fun w hw => ?_) hU hN (zz_Smono hS (fun q h => (hno h).elim)) (hsize.trans hml.symm) d0 d3 d4 d6 d9 (fun x hx => (htab x hx).elim) hRf hRl hRc hRs hlocks (fun t ht hz hk2 => ?_) (fun z hz => (hno (hS.2.2 z hz)).elim) hc hs
  · rcases hat w hw with ⟨h | h, hg⟩ | ⟨h, ho⟩
    · exact hts w (List.mem_filter.mpr ⟨List.mem_append_right _ h, hg⟩)
    · exact hts w (List.mem_filter.mpr ⟨List.mem_append_left _ h, hg⟩)
    · exact va_Nw.use ho (h2 w h)
  · rcases List.mem_cons.mp hw with rfl | hw
    · rfl
    · rcases List.mem_cons.mp hw with rfl | hw
      · rfl
      · exact hot w hw
  · have hf : zz_fr zz_no s.heap t.heap := ⟨Nat.le_trans hS.1 hz, fun q h8 h9 => (hk2 q (Nat.lt_of_lt_of_le h8 hS.1)).trans (hS.2.1 q h8 hno)⟩
    exact ⟨hq _ hf, hf⟩
end ZT
def zsum (f : Nat → Nat) : Nat → Nat
  | 0 => 0
  | n + 1 => zsum f n + f n
/-- the number of i below n with p i -/
def zc (p : Nat → Prop) [DecidablePred p] : Nat → Nat
  | 0 => 0
  | n + 1 => zc p n + (if p n then 1 else 0)
def zq (N : Nat → Nat → Nat) : Prop :=
  ((N 0 0 ≤ 6 ∧ N 0 1 ≤ 12 ∧ N 0 2 ≤ 12 ∧ N 12 0 ≤ 365 ∧ N 12 1 ≤ 12 * N 12 0 + 12) ∧ (∀ k i, N k i < 2 ^ 31)) ∧
  ((∀ q, q < N 0 1 → N 6 q ≤ N 0 0) ∧ (∀ q, q < N 0 1 → N 11 q ≤ N 0 0)) ∧
  ((∀ k, k < N 0 2 → N 9 k < N 0 1 ∧ N 10 k < N 0 0 ∧ N 11 (N 9 k) = N 10 k + 1) ∧ (∀ q, q < N 0 1 → N 11 q ≠ 0 → ∃ k, k < N 0 2 ∧ N 9 k = q) ∧ (∀ k k', k < N 0 2 → k' < N 0 2 → N 9 k = N 9 k' → k = k')) ∧
  ((∀ f, f < N 0 0 → 1 ≤ N 1 f ∧ N 1 f ≤ 12 ∧ N 2 f ≤ 99) ∧ (∀ i, N 3 i ≤ 1 ∧ N 7 i ≤ 1 ∧ N 8 i ≤ 1 ∧ N 5 i ≤ 10 ∧ N 4 i ≤ 3) ∧ N 0 2 ≤ zsum (fun f => N 1 f) (N 0 0))
def zi (N : Nat → Nat → Nat) : Prop := zq N ∧
  ((∀ q, q < N 0 1 → N 6 q = 0 → N 7 q = 0) ∧ (∀ q f, q < N 0 1 → N 6 q = f + 1 → N 3 f = 1) ∧ (∀ f, f < N 0 0 → zc (fun q => N 6 q = f + 1) (N 0 1) ≤ N 1 f)) ∧
  ((∀ f, N 0 0 ≤ f → N 3 f = 0) ∧ (∀ q, N 0 1 ≤ q → N 7 q = 0 ∧ N 8 q = 0 ∧ N 11 q = 0) ∧ N 12 1 ≤ 12 * N 12 0)
section ZV
variable {N : Nat → Nat → Nat}
theorem zq.f (h : zq N) : N 0 0 ≤ 6 := h.1.1.1
theorem zq.p (h : zq N) : N 0 1 ≤ 12 := h.1.1.2.1
theorem zq.b (h : zq N) : N 0 2 ≤ 12 := h.1.1.2.2.1
theorem zq.d (h : zq N) : N 12 0 ≤ 365 := h.1.1.2.2.2.1
theorem zq.n (h : zq N) : N 12 1 ≤ 12 * N 12 0 + 12 := h.1.1.2.2.2.2
theorem zq.B (h : zq N) : ∀ k i, N k i < 2 ^ 31 := h.1.2
theorem zq.st (h : zq N) : ∀ q, q < N 0 1 → N 6 q ≤ N 0 0 := h.2.1.1
theorem zq.wt (h : zq N) : ∀ q, q < N 0 1 → N 11 q ≤ N 0 0 := h.2.1.2
theorem zq.bk (h : zq N) : ∀ k, k < N 0 2 → N 9 k < N 0 1 := fun k hk => (h.2.2.1.1 k hk).1
theorem zq.bf (h : zq N) : ∀ k, k < N 0 2 → N 10 k < N 0 0 := fun k hk => (h.2.2.1.1 k hk).2.1
theorem zq.bw (h : zq N) : ∀ k, k < N 0 2 → N 11 (N 9 k) = N 10 k + 1 := fun k hk => (h.2.2.1.1 k hk).2.2
theorem zq.on (h : zq N) : ∀ q, q < N 0 1 → N 11 q ≠ 0 → ∃ k, k < N 0 2 ∧ N 9 k = q := h.2.2.1.2.1
theorem zq.ij (h : zq N) : ∀ k k', k < N 0 2 → k' < N 0 2 → N 9 k = N 9 k' → k = k' := h.2.2.1.2.2
theorem zq.fl (h : zq N) : ∀ f, f < N 0 0 → 1 ≤ N 1 f ∧ N 1 f ≤ 12 ∧ N 2 f ≤ 99 := h.2.2.2.1
theorem zq.sm (h : zq N) : ∀ i, N 3 i ≤ 1 ∧ N 7 i ≤ 1 ∧ N 8 i ≤ 1 ∧ N 5 i ≤ 10 ∧ N 4 i ≤ 3 := h.2.2.2.2.1
theorem zq.ts (h : zq N) : N 0 2 ≤ zsum (fun f => N 1 f) (N 0 0) := h.2.2.2.2.2
theorem zi.q (h : zi N) : zq N := h.1
theorem zi.ns (h : zi N) : ∀ q, q < N 0 1 → N 6 q = 0 → N 7 q = 0 := h.2.1.1
theorem zi.so (h : zi N) : ∀ q f, q < N 0 1 → N 6 q = f + 1 → N 3 f = 1 := h.2.1.2.1
theorem zi.sc (h : zi N) : ∀ f, f < N 0 0 → zc (fun q => N 6 q = f + 1) (N 0 1) ≤ N 1 f := h.2.1.2.2
theorem zi.cf (h : zi N) : ∀ f, N 0 0 ≤ f → N 3 f = 0 := h.2.2.1
theorem zi.cp (h : zi N) : ∀ q, N 0 1 ≤ q → N 7 q = 0 ∧ N 8 q = 0 ∧ N 11 q = 0 := h.2.2.2.1
theorem zi.nn (h : zi N) : N 12 1 ≤ 12 * N 12 0 := h.2.2.2.2
end ZV
/-- the lists of the class: their rows are long enough; an empty one is the machine's own -/
def zk (K : zz_G) (ad : Nat → Nat → Nat) (cap : Nat → Nat) (N : Nat → Nat → Nat) : Prop := ∀ t, t < 3 → N 0 t ≤ cap t ∧ cap t ≤ 40 ∧ (cap t = 0 → ad 2 t = K.2.2 0)
