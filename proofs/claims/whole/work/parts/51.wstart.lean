theorem zd_X2_init : yX2_init.cls ≠ "java/lang/invoke/MethodHandle" ∧ yX2_init.cls ≠ "java/lang/invoke/VarHandle" ∧ (parseMethodDescriptor yX2_init.desc).map (fun d => d.parameters.length) = some 0 := by decide +kernel
theorem zd_X3_init : yX3_init.cls ≠ "java/lang/invoke/MethodHandle" ∧ yX3_init.cls ≠ "java/lang/invoke/VarHandle" ∧ (parseMethodDescriptor yX3_init.desc).map (fun d => d.parameters.length) = some 0 := by decide +kernel
/-! THE CLAIM OUT OF ONE WALK OF THE LAW'S BODY. Your part is whole_start (and what it stands on); all else here is the same for every law, but numbers. -/
def R_law : String := "OpenFloorsLaw"
def lw_P (b : Addr) (xs : List Int32) (args : Array Value) (s : State) : Prop := args = #[.ref b] ∧ s.IntsAt b xs ∧ xs.length ≤ 1536 ∧ (Jvm.Cond.and given_1 narrow_1).before args s = true
/-- what a walk over the start with the record d0 says of its end, said of the start itself -/
theorem lw_closed {s t : State} {o : Outcome} {d0 : Drawn} {L : List Loc} {k n : Nat} (hd0 : s.drawn.sameBut d0 lw_cs) (hv : ∃ v, o = .returned v) (hW : (s.setDrawn d0).WarmedH t.vm) (hs : (s.setDrawn d0).sameButNew ({ t with vm := s.vm } : State) L k n) : State.butDraws s t lw_cs (fun t1 => Framed s o t1 L k n) := by
  have h2 : t.drawn = d0 := congrArg State.drawn hs.1
  refine ⟨⟨hv, hW, State.sameButNew.setDrawn hs s.drawn⟩, ?_, by decide⟩
  rw [h2]
  exact hd0
def lw_Q (_ : Array Value) (s : State) (o : Outcome) (t : State) : Prop := o = .returned (some (.int 1)) ∧ State.butDraws s t lw_cs (fun t1 => Framed s o t1 [] 603072 7219306)
def lw_Z (below : List Frame) (a : Array Value) (s : State) : State → Prop := fun t => ∃ o, t.status = .running ∧ Ended t below o ∧ lw_Q a s o t
/-- the law's own end, with 1 on the stack, nothing written that was there before, its room as the claim has it; d0: the record of draws at this point (at the entry s.drawn: begin with 'refine W.base ?_' and 'have hd0 := Drawn.sameBut.refl s.drawn lw_cs') -/
theorem lw_ret {p : Program} {l : Launch} {e : Env} {s : State} {m : MethodId} {below : List Frame} {meth : Method} {c : Code} {b : Nat} {d0 : Drawn} (hd0 : s.drawn.sameBut d0 lw_cs) (hx : p.tables.exec = Jvm.exec) (hb : c.code = code) (hr : meth.sig.returnType = ret) (hlocks : meth.locks = false) {pc : Nat} {H : Heap} {ls : Array Slot} (hdg : decode code pc = .ok (.ireturn, 1)) : W p l e room_1 (s.setDrawn d0) m #[Value.ref b] below meth c H [] 603072 7219306 (lw_Z below #[Value.ref b] s) (F0 m pc ls [.int 1]) := by
  intro T hT X
  obtain ⟨fs, hret, hrun, hended, hW, hframe⟩ := X.leave (v := some (.int 1)) (hlocks := hlocks) (fun h => by rw [hr] at h; cases h)
  have hmeth' : T.vm.method? m = some meth := X.method'
  refine ⟨T.setFrames fs, ?_, .returned (some (.int 1)), hrun, hended, rfl, lw_closed hd0 ⟨_, rfl⟩ hW hframe⟩
  jvm_step X.here [X.here.top, hx, hb, hdg, hmeth', hr, ret, narrow_b1]
  (try refine ⟨rfl, ?_⟩); (try refine ⟨rfl, ?_⟩)
  first | (intro acts; rw [hret _ acts rfl rfl rfl]) | rw [hret _ _ rfl rfl rfl]
  exact Steps.refl _
/-- what holds at the law's entry: the machine, the code, the tables' words (any of lw_tbl by 'hts w (by decide +kernel)'), the script of L ints xs at the cell b, what the Statement gives of the start (any of its parts by flat_of_before) -/
def lw_At (p : Program) (s : State) (m : MethodId) (meth : Method) (c : Code) (b L : Nat) (xs : Nat → Int32) : Prop :=
  p.tables.exec = Jvm.exec ∧ c.code = code ∧ meth.sig.returnType = ret ∧ c.maxLocals = 9 ∧ s.vm.findClass R_law = some m.cls ∧ (∀ w ∈ lw_tbl, w.before #[Value.ref b] s = true) ∧ va_X b L xs s s.heap ∧ b < s.heap.size ∧ meth.locks = false ∧ (Jvm.Cond.and given_1 narrow_1).before #[Value.ref b] s = true
theorem lw_end {p : Program} {l : Launch} {e : Env} {s : State} {m : MethodId} {below : List Frame} {meth : Method} {c : Code} {b L : Nat} {xs : Nat → Int32} (C : lw_C p s m c b L xs) (hr : meth.sig.returnType = ret) (hlocks : meth.locks = false) (H : Heap) (locs : List Loc) (ls : Array Slot) (cells slots : Nat) (hS : va_S (lw_A s) s.heap H locs) (hc : cells ≤ 20000) (hs : slots ≤ 400000) : W p l e room_1 s m #[Value.ref b] below meth c H locs cells slots (lw_Z below #[Value.ref b] s) (F0 m 1508 ls []) := by
  obtain ⟨hx, hb, hml, hown, hts, hXX, hbl, hL⟩ := id C
  refine lv_iconst (v := 1) hx hb dL_law_1508 (by decide) ?_
  refine va_forget (fun q hq => hS.2.2 q hq) ?_
  refine W.widen (k := 603072) (n := 7219306) (by omega) (by omega) ?_
  refine W.base ?_
  exact lw_ret (Drawn.sameBut.refl s.drawn lw_cs) hx hb hr hlocks dL_law_1509
theorem zz_frn {H H1 : Heap} (hz : H.size ≤ H1.size) (ho : ∀ q : Nat, q < H.size → H1[q]? = H[q]?) : zz_fr zz_no H H1 := ⟨hz, fun q h _ => ho q h⟩
set_option maxHeartbeats 4000000 in
set_option maxRecDepth 100000 in
theorem whole_start {p : Program} {e : Env} {s : State} {m : MethodId} {below : List Frame} {meth : Method} {c : Code} (l : Launch) (hflags : l.flags = flags0) {b L : Nat} {xs : Nat → Int32} (hL : L ≤ 1536) (C0 : lw_At p s m meth c b L xs) : W p l e room_1 s m #[Value.ref b] below meth c s.heap [] 0 0 (lw_Z below #[Value.ref b] s) (entryFrame m ([Value.ref b] : List Value).toArray 9) := by
  obtain ⟨hx, hb, hr, hml, hown, hts0, hX, hbl, hlocks, hgv⟩ := id C0
  obtain ⟨K, hE⟩ := lw_E0 hts0 hgv
  have hts : ∀ w ∈ zz_BW, w.before #[Value.ref b] s = true := fun w h => hts0 w (List.mem_filter.mp h).1
  have hfl : l.stackTraces = false := by
    unfold Launch.stackTraces
    rw [hflags]
    decide +kernel
  have hown : s.vm.findClass "OpenFloorsLaw" = some m.cls := hown
  have C : lw_C p s m c b L xs := ⟨hx, hb, hml, hown, hts, hX, hbl, hL⟩
  have hS : va_S (lw_A s) s.heap s.heap [] := va_S.rf
  have hl := lv_entry ([.ref b]) (n := 9) (Nat.le_of_ble_eq_true rfl)
  rw [lg_entry_eq]
  generalize (lg_sl ([.ref b]) ++ List.replicate (9 - (lg_sl ([.ref b])).length) Slot.unset).toArray = ls at hl ⊢
  have hl : lv_has ls 9 [(0, .ref b)] := hl
  have hK := hE.K
  -- the class's object
  refine zz_new (ci := 5) (C := RX2) (T := TX2) (N := 8) (fs := [.null, .null, .null, .int 0, .int 0, .long 0, .long 0, .long 0]) hx hb hts hown hK hS rfl zf_X2 tyX2_ok zw_25 zw_26 zw_1 (fun j hj => by match j, hj with | 0, _ => rfl | 1, _ => rfl | 2, _ => rfl | 3, _ => rfl | 4, _ => rfl | 5, _ => rfl | 6, _ => rfl | 7, _ => rfl) (Nat.le_of_ble_eq_true rfl) (Nat.le_of_ble_eq_true rfl) dL_law_0 (fun H1 hat1 hz1 ho1 hS => ?_)
  have hE := hE.kept (H1 := H1) (fun q h _ => ho1 q h)
  have hb1 : ∀ q, (q = s.heap.size ∨ H1.size ≤ q) → lw_A s q := fun q z => by
    show s.heap.size ≤ q
    rcases z with z | z <;> omega
  refine lv_dup hx hb dL_law_3 rfl ?_
  refine zz_after (A := lw_A s) (pc := 4) rfl (zz_runI (b := s.heap.size) (As := []) (rest := [.ref s.heap.size]) hx hb hml hown hts (c_X2_init l (K := K) (A := fun q => q = s.heap.size ∨ H1.size ≤ q) (r := s.heap.size)) rfl rfl zw_27 zw_28 zw_1 zw_29 zd_X2_init ⟨(Nat.le_of_ble_eq_true rfl), (Nat.le_of_ble_eq_true rfl)⟩ (hE.narrow hb1) (fun q h => Or.inr h) ⟨hat1, Or.inl rfl⟩ hl.1 (Nat.le_of_ble_eq_true rfl) dL_law_4 ⟨(Nat.le_of_ble_eq_true rfl), (Nat.le_of_ble_eq_true rfl)⟩) hS hb1 (fun v H2 locs2 hq hF2 hS => ?_)
  obtain ⟨rfl, u0, u1, u2, ⟨k0, k1, k2, d01, d02, d12⟩, hx2, hu0, hu1, hu2⟩ := hq
  have hE := hE.kept (H1 := H2) (fun q h h2 => hF2.2 q h (fun z => h2 (hb1 q z)))
  have hX2 : zv_X K (fun q => s.heap.size ≤ q ∧ q < H2.size) s.heap.size zN0 zN1 zN2 H2 := by
    have l0 : s.heap.size < H2.size := va_at.lt hx2
    have l1 : u0 < H2.size := va_at.lt hu0
    have l2 : u1 < H2.size := va_at.lt hu1
    have l3 : u2 < H2.size := va_at.lt hu2
    exact zv_X0 ⟨d01, d02, d12⟩ ⟨by omega, by omega, by omega⟩ ⟨⟨by omega, l0⟩, ⟨by omega, l1⟩, ⟨by omega, l2⟩, ⟨by omega, l3⟩⟩ hx2 hu0 hu1 hu2
  have hz12 : H1.size ≤ H2.size := hF2.1
  refine W.widen (k := 4) (n := 17) (Nat.le_of_ble_eq_true rfl) (Nat.le_of_ble_eq_true rfl) ?_
  refine W.eq (g2 := F0 m 7 ls [.ref s.heap.size]) rfl ?_
  refine lv_astore_n (lv' := [(1, .ref s.heap.size), (0, .ref b)]) hx hb dL_law_7 rfl hl (Nat.le_of_ble_eq_true rfl) rfl (fun ls hl => ?_)
  -- the reference's object
  obtain ⟨om, hom⟩ : ∃ z, z = H2.size := ⟨_, rfl⟩
  refine zz_new (ci := 6) (C := RX3) (T := TX3) (N := 22) (fs := [.int 0, .int 0, .int 0, .int 0, .int 0, .int 0, .null, .null, .null, .null, .null, .null, .null, .null, .null, .null, .null, .null, .null, .long 0, .long 0, .long 0]) hx hb hts hown hK hS rfl zf_X3 tyX3_ok zw_802 zw_803 zw_5 (fun j hj => by match j, hj with | 0, _ => rfl | 1, _ => rfl | 2, _ => rfl | 3, _ => rfl | 4, _ => rfl | 5, _ => rfl | 6, _ => rfl | 7, _ => rfl | 8, _ => rfl | 9, _ => rfl | 10, _ => rfl | 11, _ => rfl | 12, _ => rfl | 13, _ => rfl | 14, _ => rfl | 15, _ => rfl | 16, _ => rfl | 17, _ => rfl | 18, _ => rfl | 19, _ => rfl | 20, _ => rfl | 21, _ => rfl | k + 22, h => exact absurd h (by omega)) (Nat.le_of_ble_eq_true rfl) (Nat.le_of_ble_eq_true rfl) dL_law_8 (fun H3 hat3 hz3 ho3 hS => ?_)
  rw [← hom] at hat3 ⊢
  have hE := hE.kept (H1 := H3) (fun q h _ => ho3 q h)
  have hX3 := hX2.fr (H1 := H3) (zz_frn (by omega) ho3) (fun _ _ _ z => z)
  have hb3 : ∀ q, (q = om ∨ H3.size ≤ q) → lw_A s q := fun q z => by
    show s.heap.size ≤ q
    rcases z with z | z <;> omega
  refine lv_dup hx hb dL_law_11 rfl ?_
  refine zz_after (A := lw_A s) (pc := 12) rfl (zz_runI (b := om) (As := []) (rest := [.ref om]) hx hb hml hown hts (c_X3_init l (K := K) (A := fun q => q = om ∨ H3.size ≤ q) (r := om) (z0 := om + 1)) rfl rfl zw_804 zw_805 zw_5 zw_806 zd_X3_init ⟨(Nat.le_of_ble_eq_true rfl), (Nat.le_of_ble_eq_true rfl)⟩ (hE.narrow hb3) (fun q h => Or.inr h) ⟨hat3, Or.inl rfl, by omega⟩ hl.1 (Nat.le_of_ble_eq_true rfl) dL_law_12 ⟨(Nat.le_of_ble_eq_true rfl), (Nat.le_of_ble_eq_true rfl)⟩) hS hb3 (fun v H4 locs4 hq hF4 hS => ?_)
  obtain ⟨rfl, hz4, hm, hn0, hn1, hn2, hn3, hn4, hn5, hn6, hn7, hn8, hn9, hn10, hn11, hn12⟩ := hq
  have hE := hE.kept (H1 := H4) (fun q h h2 => hF4.2 q h (fun z => h2 (hb3 q z)))
  have hX4 := hX3.fr hF4 (fun q hq hl z => by rcases z with z | z <;> omega)
  have hM4 : zv_M K om 0 zN0 zN1 zN2 H4 := zv_M0 hm hn0 hn1 hn2 hn3 hn4 hn5 hn6 hn7 hn8 hn9 hn10 hn11 hn12
  refine W.widen (k := 18) (n := 165) (Nat.le_of_ble_eq_true rfl) (Nat.le_of_ble_eq_true rfl) ?_
  refine W.eq (g2 := F0 m 15 ls [.ref (zv_ad om 0 0)]) rfl ?_
  refine lv_astore_n (lv' := [(2, .ref (zv_ad om 0 0)), (1, .ref s.heap.size), (0, .ref b)]) hx hb dL_law_15 rfl hl (Nat.le_of_ble_eq_true rfl) rfl (fun ls hl => ?_)
  -- the two rows
  refine zz_con 1 hx hb dL_law_16 (by decide) ?_
  refine zz_newa (atype := .long) (a0 := (1, .inr (.inl (fun _ => 0)))) 3 hx hb hts hE.K hS zw_1080 rfl rfl (by intro C h; cases h) (fun cA => rfl) (nI_pos (by decide)) (nI_clamp (by decide)) (by decide) (Nat.le_of_ble_eq_true rfl) (Nat.le_of_ble_eq_true rfl) dL_law_17 (fun H5 hn5 hz5 ho5 hS => ?_)
  have hs5 : H4.size = om + 14 := by omega
  rw [hs5] at hn5 ⊢
  have hE := hE.kept (H1 := H5) (fun q h _ => ho5 q h)
  have f5 : zz_fr zz_no H4 H5 := zz_frn (by omega) ho5
  have hX5 := hX4.fr f5 (fun _ _ _ z => z)
  have hM5 : zv_M K om 0 zN0 zN1 zN2 H5 := zz_W.fr hM4 f5 (fun _ _ _ z => z)
  refine lv_astore_n (lv' := [(3, .ref (om + 14)), (2, .ref (zv_ad om 0 0)), (1, .ref s.heap.size), (0, .ref b)]) hx hb dL_law_19 rfl hl (Nat.le_of_ble_eq_true rfl) rfl (fun ls hl => ?_)
  refine zz_con 1 hx hb dL_law_20 (by decide) ?_
  refine zz_newa (atype := .double) (a0 := (1, .inr (.inr (.inr (.inl (fun _ => 0)))))) 4 hx hb hts hE.K hS zw_1081 rfl rfl (by intro C h; cases h) (fun cA => rfl) (nI_pos (by decide)) (nI_clamp (by decide)) (by decide) (Nat.le_of_ble_eq_true rfl) (Nat.le_of_ble_eq_true rfl) dL_law_21 (fun H6 hn6 hz6 ho6 hS => ?_)
  have hs6 : H5.size = om + 15 := by omega
  rw [hs6] at hn6 ⊢
  have hE := hE.kept (H1 := H6) (fun q h _ => ho6 q h)
  have f6 : zz_fr zz_no H5 H6 := zz_frn (by omega) ho6
  have hX6 := hX5.fr f6 (fun _ _ _ z => z)
  have hM6 : zv_M K om 0 zN0 zN1 zN2 H6 := zz_W.fr hM5 f6 (fun _ _ _ z => z)
  have hn5 := va_at.kept hn5 (ho6 (om + 14) (by omega))
  refine lv_astore (lv' := [(4, .ref (om + 15)), (3, .ref (om + 14)), (2, .ref (zv_ad om 0 0)), (1, .ref s.heap.size), (0, .ref b)]) hx hb dL_law_23 hl (Nat.le_of_ble_eq_true rfl) rfl (fun ls hl => ?_)
  refine zz_con 0 hx hb dL_law_25 (by decide) ?_
  refine lv_istore (lv' := [(5, .int (nI 0)), (4, .ref (om + 15)), (3, .ref (om + 14)), (2, .ref (zv_ad om 0 0)), (1, .ref s.heap.size), (0, .ref b)]) hx hb dL_law_26 hl (Nat.le_of_ble_eq_true rfl) rfl (fun ls hl => ?_)
  have hV : lw_V K s om H6 := by
    refine ⟨0, 0, 0, zN0, zN1, zN2, zi_0, fun f hf => absurd hf (Nat.not_lt_zero f), ⟨by omega, by omega⟩, hE, ?_, hM6, ⟨_, hn5, rfl⟩, ⟨_, hn6, rfl⟩⟩
    obtain ⟨ad, Ek, cap, g1, g2, g3⟩ := hX6
    exact ⟨ad, Ek, cap, g1, g2, zz_W.onto g3 (fun k i e he => ⟨(g3.1 k i e he).2.1, fun z => by have := (g3.1 k i e he).2.2; omega⟩)⟩
  refine W.widen (k := 40 + 10 * 0) (n := 1000 + 200 * 0) (Nat.le_of_ble_eq_true rfl) (Nat.le_of_ble_eq_true rfl) ?_
  exact law_loop l hfl C (lw_end C hr hlocks) (L + 1) 0 (by omega) (by omega) _ _ _ hS hV hl
