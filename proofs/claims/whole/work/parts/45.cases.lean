/-! by program (gen.py): contracts of methods -/
/-! the law's calls, one by one -/
def lw_C (p : Program) (s : State) (m : MethodId) (c : Code) (b L : Nat) (xs : Nat → Int32) : Prop :=
  p.tables.exec = Jvm.exec ∧ c.code = code ∧ c.maxLocals = 9 ∧ s.vm.findClass "OpenFloorsLaw" = some m.cls ∧ (∀ w ∈ zz_BW, w.before #[Value.ref b] s = true) ∧ va_X b L xs s s.heap ∧ b < s.heap.size ∧ L ≤ 1536
def lw_V (K : zz_G) (s : State) (om : Nat) (H : Heap) : Prop := ∃ th vl vd N G Ls, zi N ∧ zgi N G ∧ zv_I K s om th vl vd N G Ls N G Ls H
theorem zv_I.ro {K : zz_G} {s : State} {om : Nat} {th : Int32} {vl : Int64} {vd : UInt64} {N N' : zN} {G G' : Nat → Nat → Int32} {L L' : Nat → Int64} {H H1 : Heap} (h : zv_I K s om th vl vd N G L N' G' L' H) (f : zz_fr zz_no H H1) : zv_I K s om th vl vd N G L N' G' L' H1 :=
  h.onX (f.mono (fun _ z => z.elim)) (h.2.2.1.fr f (fun _ _ _ z => z))
theorem lg_cmp_self (x : Int64) : lg_cmp x x = 0 := by
  unfold lg_cmp
  rw [if_neg (Int64.lt_irrefl (a := x)), if_pos rfl]
theorem zmean_g : ∀ a, a < 121 → ∀ b, b < 12 → Op.cmpValue (FP.dcmp (FP.ddiv (FP.i2d (nI a)) (FP.i2d (nI (b + 1)))) (FP.ddiv (FP.i2d (nI a)) (FP.i2d (nI (b + 1))))) CmpOp.l = 0 := by decide +kernel
theorem zmean_c {N : zN} (h : zq N) (h0 : N 0 1 ≠ 0) : Op.cmpValue (FP.dcmp (zmean N) (zmean N)) CmpOp.l = 0 := by
  have h1 := zsm_b h
  have h2 := h.p
  have := zmean_g (zsm N) (by omega) (N 0 1 - 1) (by omega)
  rw [show N 0 1 - 1 + 1 = N 0 1 by omega] at this
  exact this
theorem zshare_k : ∀ a, a < 73 → ∀ b, b < 72 → Op.cmpValue (FP.dcmp (FP.f2d (FP.fdiv (FP.i2f (nI a)) (FP.i2f (nI (b + 1))))) (FP.f2d (FP.fdiv (FP.i2f (nI a)) (FP.i2f (nI (b + 1)))))) CmpOp.l = 0 := by decide +kernel
theorem zshare_c {N : zN} (h : zq N) (h0 : zos N ≠ 0) : Op.cmpValue (FP.dcmp (FP.f2d (zshare N)) (FP.f2d (zshare N))) CmpOp.l = 0 := by
  have h1 := zgv2_b h
  have h2 := zos_b h
  have := zshare_k (zgv2 N) (by omega) (zos N - 1) (by omega)
  rw [show zos N - 1 + 1 = zos N by omega] at this
  exact this
theorem zif_n {P : Prop} [Decidable P] (h : nI (if P then 1 else 0) = 0) : ¬ P := fun q => by
  rw [if_pos q] at h
  exact absurd h (by decide)
section ZLS
variable {p : Program} {l : Launch} {e : Env} {R : Room} {s : State} {m : MethodId} {below : List Frame} {meth : Method} {c : Code} {H : Heap} {locs : List Loc} {cells slots : Nat} {Q : State → Prop} {b L : Nat} {xs : Nat → Int32} {pc : Nat} {ls : Array Slot} {rest : List Value}
theorem lw_sld (C : lw_C p s m c b L xs) (hS : va_S (lw_A s) s.heap H locs) {j : Nat} (hj : j < L) (hdg : decode code pc = .ok (.iaload, 1)) (kk : W p l e R s m #[Value.ref b] below meth c H locs cells slots Q (F0 m (pc + 1) ls (.int (xs j) :: rest))) : W p l e R s m #[Value.ref b] below meth c H locs cells slots Q (F0 m pc ls (.int (nI j) :: .ref b :: rest)) := by
  obtain ⟨hx, hb, hml, hown, hts, hX, hbl, hL⟩ := C
  refine va_sld hx hb hX hbl (Nat.not_le.mpr hbl) hS (vp_in_nI hj (by omega)) hdg ?_
  rw [nI_clamp (by omega)]
  exact kk
theorem lw_len (C : lw_C p s m c b L xs) (hS : va_S (lw_A s) s.heap H locs) (hdg : decode code pc = .ok (.arraylength, 1)) (kk : W p l e R s m #[Value.ref b] below meth c H locs cells slots Q (F0 m (pc + 1) ls (.int (nI L) :: rest))) : W p l e R s m #[Value.ref b] below meth c H locs cells slots Q (F0 m pc ls (.ref b :: rest)) := by
  obtain ⟨hx, hb, hml, hown, hts, hX, hbl, hL⟩ := C
  exact va_slen hx hb hX hbl (Nat.not_le.mpr hbl) hS hdg kk
end ZLS
theorem zd_L_addFloor : yL_addFloor.cls ≠ "java/lang/invoke/MethodHandle" ∧ yL_addFloor.cls ≠ "java/lang/invoke/VarHandle" ∧ (parseMethodDescriptor yL_addFloor.desc).map (fun d => d.parameters.length) = some 4 := by decide +kernel
theorem zd_L_addPerson : yL_addPerson.cls ≠ "java/lang/invoke/MethodHandle" ∧ yL_addPerson.cls ≠ "java/lang/invoke/VarHandle" ∧ (parseMethodDescriptor yL_addPerson.desc).map (fun d => d.parameters.length) = some 3 := by decide +kernel
theorem zd_L_book : yL_book.cls ≠ "java/lang/invoke/MethodHandle" ∧ yL_book.cls ≠ "java/lang/invoke/VarHandle" ∧ (parseMethodDescriptor yL_book.desc).map (fun d => d.parameters.length) = some 4 := by decide +kernel
theorem zd_L_bookingAt : yL_bookingAt.cls ≠ "java/lang/invoke/MethodHandle" ∧ yL_bookingAt.cls ≠ "java/lang/invoke/VarHandle" ∧ (parseMethodDescriptor yL_bookingAt.desc).map (fun d => d.parameters.length) = some 3 := by decide +kernel
theorem zd_L_cancel : yL_cancel.cls ≠ "java/lang/invoke/MethodHandle" ∧ yL_cancel.cls ≠ "java/lang/invoke/VarHandle" ∧ (parseMethodDescriptor yL_cancel.desc).map (fun d => d.parameters.length) = some 3 := by decide +kernel
theorem zd_L_comeIn : yL_comeIn.cls ≠ "java/lang/invoke/MethodHandle" ∧ yL_comeIn.cls ≠ "java/lang/invoke/VarHandle" ∧ (parseMethodDescriptor yL_comeIn.desc).map (fun d => d.parameters.length) = some 3 := by decide +kernel
theorem zd_L_lossOf : yL_lossOf.cls ≠ "java/lang/invoke/MethodHandle" ∧ yL_lossOf.cls ≠ "java/lang/invoke/VarHandle" ∧ (parseMethodDescriptor yL_lossOf.desc).map (fun d => d.parameters.length) = some 3 := by decide +kernel
theorem zd_L_nextDay : yL_nextDay.cls ≠ "java/lang/invoke/MethodHandle" ∧ yL_nextDay.cls ≠ "java/lang/invoke/VarHandle" ∧ (parseMethodDescriptor yL_nextDay.desc).map (fun d => d.parameters.length) = some 2 := by decide +kernel
theorem zd_L_setCost : yL_setCost.cls ≠ "java/lang/invoke/MethodHandle" ∧ yL_setCost.cls ≠ "java/lang/invoke/VarHandle" ∧ (parseMethodDescriptor yL_setCost.desc).map (fun d => d.parameters.length) = some 4 := by decide +kernel
theorem zd_L_standing : yL_standing.cls ≠ "java/lang/invoke/MethodHandle" ∧ yL_standing.cls ≠ "java/lang/invoke/VarHandle" ∧ (parseMethodDescriptor yL_standing.desc).map (fun d => d.parameters.length) = some 3 := by decide +kernel
theorem zd_X3_addFloor : yX3_addFloor.cls ≠ "java/lang/invoke/MethodHandle" ∧ yX3_addFloor.cls ≠ "java/lang/invoke/VarHandle" ∧ (parseMethodDescriptor yX3_addFloor.desc).map (fun d => d.parameters.length) = some 2 := by decide +kernel
theorem zd_X3_addPerson : yX3_addPerson.cls ≠ "java/lang/invoke/MethodHandle" ∧ yX3_addPerson.cls ≠ "java/lang/invoke/VarHandle" ∧ (parseMethodDescriptor yX3_addPerson.desc).map (fun d => d.parameters.length) = some 1 := by decide +kernel
theorem zd_X3_book : yX3_book.cls ≠ "java/lang/invoke/MethodHandle" ∧ yX3_book.cls ≠ "java/lang/invoke/VarHandle" ∧ (parseMethodDescriptor yX3_book.desc).map (fun d => d.parameters.length) = some 2 := by decide +kernel
theorem zd_X3_bookingAt : yX3_bookingAt.cls ≠ "java/lang/invoke/MethodHandle" ∧ yX3_bookingAt.cls ≠ "java/lang/invoke/VarHandle" ∧ (parseMethodDescriptor yX3_bookingAt.desc).map (fun d => d.parameters.length) = some 1 := by decide +kernel
theorem zd_X3_cancel : yX3_cancel.cls ≠ "java/lang/invoke/MethodHandle" ∧ yX3_cancel.cls ≠ "java/lang/invoke/VarHandle" ∧ (parseMethodDescriptor yX3_cancel.desc).map (fun d => d.parameters.length) = some 1 := by decide +kernel
theorem zd_X3_comeIn : yX3_comeIn.cls ≠ "java/lang/invoke/MethodHandle" ∧ yX3_comeIn.cls ≠ "java/lang/invoke/VarHandle" ∧ (parseMethodDescriptor yX3_comeIn.desc).map (fun d => d.parameters.length) = some 1 := by decide +kernel
theorem zd_X3_lossOf : yX3_lossOf.cls ≠ "java/lang/invoke/MethodHandle" ∧ yX3_lossOf.cls ≠ "java/lang/invoke/VarHandle" ∧ (parseMethodDescriptor yX3_lossOf.desc).map (fun d => d.parameters.length) = some 1 := by decide +kernel
theorem zd_X3_nextDay : yX3_nextDay.cls ≠ "java/lang/invoke/MethodHandle" ∧ yX3_nextDay.cls ≠ "java/lang/invoke/VarHandle" ∧ (parseMethodDescriptor yX3_nextDay.desc).map (fun d => d.parameters.length) = some 0 := by decide +kernel
theorem zd_X3_setCost : yX3_setCost.cls ≠ "java/lang/invoke/MethodHandle" ∧ yX3_setCost.cls ≠ "java/lang/invoke/VarHandle" ∧ (parseMethodDescriptor yX3_setCost.desc).map (fun d => d.parameters.length) = some 2 := by decide +kernel
theorem zd_X3_standing : yX3_standing.cls ≠ "java/lang/invoke/MethodHandle" ∧ yX3_standing.cls ≠ "java/lang/invoke/VarHandle" ∧ (parseMethodDescriptor yX3_standing.desc).map (fun d => d.parameters.length) = some 1 := by decide +kernel
theorem zd_X3_thrown : yX3_thrown.cls ≠ "java/lang/invoke/MethodHandle" ∧ yX3_thrown.cls ≠ "java/lang/invoke/VarHandle" ∧ (parseMethodDescriptor yX3_thrown.desc).map (fun d => d.parameters.length) = some 0 := by decide +kernel
set_option maxHeartbeats 4000000 in
set_option maxRecDepth 100000 in
theorem lawc_addFloor {p : Program} (l : Launch) (hfl : l.stackTraces = false) {e : Env} {s : State} {m : MethodId} {below : List Frame} {meth : Method} {c : Code} {H : Heap} {locs : List Loc} {cells slots : Nat} {Q : State → Prop} {b L : Nat} {xs : Nat → Int32} {ls : Array Slot} {K : zz_G} {om i : Nat} {th : Int32} {vl : Int64} {vd : UInt64} {N : Nat → Nat → Nat} {G : Nat → Nat → Int32} {Ls : Nat → Int64} (C : lw_C p s m c b L xs) (hi : i + 3 ≤ L) (hzi : zi N) (hg : zgi N G) (hS : va_S (lw_A s) s.heap H locs) (hI : zv_I K s om th vl vd N G Ls N G Ls H) (hl : lv_has ls 9 [(5, .int (nI i)), (4, .ref (om + 15)), (3, .ref (om + 14)), (2, .ref (zv_ad om 0 0)), (1, .ref s.heap.size), (0, .ref b)]) (hc : cells + 10 ≤ room_1.cells) (hs : slots + 200 ≤ room_1.slots)
    (kk : ∀ (H1 : Heap) (locs1 : List Loc) (ls1 : Array Slot), va_S (lw_A s) s.heap H1 locs1 → lw_V K s om H1 → lv_has ls1 9 [(5, .int (nI i)), (4, .ref (om + 15)), (3, .ref (om + 14)), (2, .ref (zv_ad om 0 0)), (1, .ref s.heap.size), (0, .ref b)] → W p l e room_1 s m #[Value.ref b] below meth c H1 locs1 (cells + 10) (slots + 200) Q (F0 m 1502 ls1 [])) : W p l e room_1 s m #[Value.ref b] below meth c H locs cells slots Q (F0 m 180 ls []) := by
  obtain ⟨hx, hb, hml, hown, hts, hXX, hbl, hL⟩ := id C
  have hom := hI.1
  refine lv_aload_n hx hb dL_law_180 rfl (lv_at hl 4 rfl) ?_
  refine lv_aload_n hx hb dL_law_181 rfl (lv_at hl 5 rfl) ?_
  refine lv_iload hx hb dL_law_182 (lv_at hl 0 rfl) ?_
  refine zz_con 1 hx hb dL_law_184 (by decide) ?_
  refine zz_add hx hb dL_law_185 ?_
  refine lw_sld C hS (j := i + 1) (by omega) dL_law_186 ?_
  refine lv_aload_n hx hb dL_law_187 rfl (lv_at hl 5 rfl) ?_
  refine lv_iload hx hb dL_law_188 (lv_at hl 0 rfl) ?_
  refine zz_con 2 hx hb dL_law_190 (by decide) ?_
  refine zz_add hx hb dL_law_191 ?_
  refine lw_sld C hS (j := i + 2) (by omega) dL_law_192 ?_
  refine lv_aload_n hx hb dL_law_193 rfl (lv_at hl 2 rfl) ?_
  refine zz_after (A := lw_A s) (pc := 194) rfl (zz_runSH (As := [.ref s.heap.size, .int (xs (i + 1)), .int (xs (i + 2)), .ref (om + 14)]) (rest := []) hx hb hml hown hts (c_L_addFloor l hfl (K := K) (A := lw_L s om (om + 14)) (Ax := lw_X s om) (ox := s.heap.size) (ol := om + 14) (v0 := vl) (N := N) (G := G) (L := Ls) hzi (xs (i + 1)) (xs (i + 2)) (fun q h => Or.inl h) (Or.inr rfl) (fun z => z.2 ⟨by omega, by omega⟩)) zw_227 zw_228 zw_0 zw_229 zd_L_addFloor ⟨Nat.le_of_ble_eq_true rfl, Nat.le_of_ble_eq_true rfl⟩ (hI.2.1.narrow (hI.la (Or.inl rfl))) (hI.nl _) ⟨hI.nx, hI.2.2.1, hI.2.2.2.2.1⟩ hl.1 (Nat.le_of_ble_eq_true rfl) dL_law_194 ⟨Nat.le_trans (Nat.add_le_add_left (Nat.le_of_ble_eq_true rfl) _) hc, Nat.le_trans (Nat.add_le_add_left (Nat.le_of_ble_eq_true rfl) _) hs⟩) hS (hI.la (Or.inl rfl)) (fun v H locs hq hF hS => ?_)
  obtain ⟨rfl, hX1, v1, hv1, hve⟩ := hq
  have hI := hI.onL hF hX1 hv1
  refine W.widen (k := cells + 10) (n := slots + 200) (Nat.add_le_add_left (Nat.le_of_ble_eq_true rfl) _) (Nat.add_le_add_left (Nat.le_of_ble_eq_true rfl) _) ?_
  refine W.eq (g2 := F0 m 197 ls [.int (nI ((zs_addFloor N G (xs (i + 1)) (xs (i + 2))).1))]) rfl ?_
  refine lv_istore (lv' := [(6, .int (nI ((zs_addFloor N G (xs (i + 1)) (xs (i + 2))).1))), (5, .int (nI i)), (4, .ref (om + 15)), (3, .ref (om + 14)), (2, .ref (zv_ad om 0 0)), (1, .ref s.heap.size), (0, .ref b)]) hx hb dL_law_197 hl (Nat.le_of_ble_eq_true rfl) rfl (fun ls hl => ?_)
  refine lv_aload_n hx hb dL_law_199 rfl (lv_at hl 4 rfl) ?_
  refine lv_aload_n hx hb dL_law_200 rfl (lv_at hl 6 rfl) ?_
  refine lv_iload hx hb dL_law_201 (lv_at hl 1 rfl) ?_
  refine zz_con 1 hx hb dL_law_203 (by decide) ?_
  refine zz_add hx hb dL_law_204 ?_
  refine lw_sld C hS (j := i + 1) (by omega) dL_law_205 ?_
  refine lv_aload_n hx hb dL_law_206 rfl (lv_at hl 6 rfl) ?_
  refine lv_iload hx hb dL_law_207 (lv_at hl 1 rfl) ?_
  refine zz_con 2 hx hb dL_law_209 (by decide) ?_
  refine zz_add hx hb dL_law_210 ?_
  refine lw_sld C hS (j := i + 2) (by omega) dL_law_211 ?_
  refine zz_after (A := lw_A s) (pc := 212) rfl (zz_runV (ci := 6) (q0 := (RX3, TX3, 22)) (b := zv_ad om 0 0) (As := [.int (xs (i + 1)), .int (xs (i + 2))]) (rest := []) hx hb hml hown hts (c_X3_addFloor l (K := K) (A := lw_M om H) (ad := zv_ad om) (th := th) (N := N) (G := G) (L := Ls) hzi.q (xs (i + 1)) (xs (i + 2))) zw_880 zw_881 zw_882 zw_5 zw_883 zd_X3_addFloor ⟨Nat.le_of_ble_eq_true rfl, Nat.le_of_ble_eq_true rfl⟩ (hI.2.1.narrow hI.ma) (fun q h => Or.inr h) (zm_ob hI.2.2.2.1).1 rfl rfl hI.2.2.2.1.wide hl.1 (Nat.le_of_ble_eq_true rfl) dL_law_212 ⟨hc, hs⟩) hS hI.ma (fun v H locs hq hF hS => ?_)
  obtain ⟨rfl, hM⟩ := hq
  have hI := hI.onM hF (zv_M.slim hM)
  refine W.eq (g2 := F0 m 215 ls [.int ((zs_addFloor N G (xs (i + 1)) (xs (i + 2))).2.1)]) rfl ?_
  refine lv_istore (lv' := [(7, .int ((zs_addFloor N G (xs (i + 1)) (xs (i + 2))).2.1)), (6, .int (nI ((zs_addFloor N G (xs (i + 1)) (xs (i + 2))).1))), (5, .int (nI i)), (4, .ref (om + 15)), (3, .ref (om + 14)), (2, .ref (zv_ad om 0 0)), (1, .ref s.heap.size), (0, .ref b)]) hx hb dL_law_215 hl (Nat.le_of_ble_eq_true rfl) rfl (fun ls hl => ?_)
  refine lv_aload_n hx hb dL_law_217 rfl (lv_at hl 5 rfl) ?_
  refine zz_after (A := lw_A s) (pc := 218) rfl (zz_runV (ci := 6) (q0 := (RX3, TX3, 22)) (b := zv_ad om 0 0) (As := []) (rest := []) hx hb hml hown hts (c_X3_thrown l (K := K) (A := lw_M om H) (ad := zv_ad om) (th := nI ((zs_addFloor N G (xs (i + 1)) (xs (i + 2))).1))) zw_876 zw_877 zw_878 zw_5 zw_879 zd_X3_thrown ⟨Nat.le_of_ble_eq_true rfl, Nat.le_of_ble_eq_true rfl⟩ (hI.2.1.narrow hI.ma) (fun q h => Or.inr h) (zm_ob hI.2.2.2.1).1 rfl rfl hI.2.2.2.1.wide hl.1 (Nat.le_of_ble_eq_true rfl) dL_law_218 ⟨hc, hs⟩) hS (fun _ z => z.elim) (fun v H locs hq hF hS => ?_)
  obtain rfl := hq
  have hI := hI.ro hF
  refine W.eq (g2 := F0 m 221 ls [.int (nI ((zs_addFloor N G (xs (i + 1)) (xs (i + 2))).1))]) rfl ?_
  refine lv_iload hx hb dL_law_221 (lv_at hl 1 rfl) ?_
  refine lv_icmp_eq (tgt := 228) hx hb dL_law_223 (by decide) (fun _ => ?_) (fun h9 => absurd rfl h9)
  refine lv_iload hx hb dL_law_228 (lv_at hl 1 rfl) ?_
  refine lv_if_ne (tgt := 245) hx hb dL_law_230 (by decide) (fun h9 => ?_) (fun h9 => ?_)
  · skip
    refine lv_goto (tgt := 1502) hx hb dL_law_245 (by decide) ?_
    exact kk _ _ _ hS ⟨_, _, _, _, _, _, (ki_addFloor hzi hg _ _).1, (ki_addFloor hzi hg _ _).2, hI⟩ (lv_sub hl [2, 3, 4, 5, 6, 7] rfl)
  · skip
    have e9 := hve h9
    obtain ⟨f9, hat9, hf9⟩ := hI.2.2.2.2.1
    refine lv_aload_n hx hb dL_law_233 rfl (lv_at hl 4 rfl) ?_
    refine zz_con 0 hx hb dL_law_234 (by decide) ?_
    refine zz_lald (y := v1) hx hb hI.2.1.K hat9 (vp_in_nI (by decide) (by decide)) dL_law_235 (by rw [nI_clamp (by decide)]; exact hf9) ?_
    rw [e9]
    refine lv_iload hx hb dL_law_236 (lv_at hl 0 rfl) ?_
    refine lv_i2l hx hb dL_law_238 rfl ?_
    refine W.lcmp hx hb dL_law_239 ?_
    rw [lg_cmp_self]
    refine lv_if_eq (tgt := 245) hx hb dL_law_240 (by decide) (fun _ => ?_) (fun h8 => absurd rfl h8)
    refine lv_goto (tgt := 1502) hx hb dL_law_245 (by decide) ?_
    exact kk _ _ _ hS ⟨_, _, _, _, _, _, (ki_addFloor hzi hg _ _).1, (ki_addFloor hzi hg _ _).2, hI⟩ (lv_sub hl [2, 3, 4, 5, 6, 7] rfl)

set_option maxHeartbeats 4000000 in
set_option maxRecDepth 100000 in
theorem lawc_setCost {p : Program} (l : Launch) (hfl : l.stackTraces = false) {e : Env} {s : State} {m : MethodId} {below : List Frame} {meth : Method} {c : Code} {H : Heap} {locs : List Loc} {cells slots : Nat} {Q : State → Prop} {b L : Nat} {xs : Nat → Int32} {ls : Array Slot} {K : zz_G} {om i : Nat} {th : Int32} {vl : Int64} {vd : UInt64} {N : Nat → Nat → Nat} {G : Nat → Nat → Int32} {Ls : Nat → Int64} (C : lw_C p s m c b L xs) (hi : i + 3 ≤ L) (hzi : zi N) (hg : zgi N G) (hS : va_S (lw_A s) s.heap H locs) (hI : zv_I K s om th vl vd N G Ls N G Ls H) (hl : lv_has ls 9 [(5, .int (nI i)), (4, .ref (om + 15)), (3, .ref (om + 14)), (2, .ref (zv_ad om 0 0)), (1, .ref s.heap.size), (0, .ref b)]) (hc : cells + 10 ≤ room_1.cells) (hs : slots + 200 ≤ room_1.slots)
    (kk : ∀ (H1 : Heap) (locs1 : List Loc) (ls1 : Array Slot), va_S (lw_A s) s.heap H1 locs1 → lw_V K s om H1 → lv_has ls1 9 [(5, .int (nI i)), (4, .ref (om + 15)), (3, .ref (om + 14)), (2, .ref (zv_ad om 0 0)), (1, .ref s.heap.size), (0, .ref b)] → W p l e room_1 s m #[Value.ref b] below meth c H1 locs1 (cells + 10) (slots + 200) Q (F0 m 1502 ls1 [])) : W p l e room_1 s m #[Value.ref b] below meth c H locs cells slots Q (F0 m 248 ls []) := by
  obtain ⟨hx, hb, hml, hown, hts, hXX, hbl, hL⟩ := id C
  have hom := hI.1
  refine lv_aload_n hx hb dL_law_248 rfl (lv_at hl 4 rfl) ?_
  refine lv_aload_n hx hb dL_law_249 rfl (lv_at hl 5 rfl) ?_
  refine lv_iload hx hb dL_law_250 (lv_at hl 0 rfl) ?_
  refine zz_con 1 hx hb dL_law_252 (by decide) ?_
  refine zz_add hx hb dL_law_253 ?_
  refine lw_sld C hS (j := i + 1) (by omega) dL_law_254 ?_
  refine lv_aload_n hx hb dL_law_255 rfl (lv_at hl 5 rfl) ?_
  refine lv_iload hx hb dL_law_256 (lv_at hl 0 rfl) ?_
  refine zz_con 2 hx hb dL_law_258 (by decide) ?_
  refine zz_add hx hb dL_law_259 ?_
  refine lw_sld C hS (j := i + 2) (by omega) dL_law_260 ?_
  refine lv_aload_n hx hb dL_law_261 rfl (lv_at hl 2 rfl) ?_
  refine zz_after (A := lw_A s) (pc := 262) rfl (zz_runSH (As := [.ref s.heap.size, .int (xs (i + 1)), .int (xs (i + 2)), .ref (om + 14)]) (rest := []) hx hb hml hown hts (c_L_setCost l hfl (K := K) (A := lw_L s om (om + 14)) (Ax := lw_X s om) (ox := s.heap.size) (ol := om + 14) (v0 := vl) (N := N) (G := G) (L := Ls) hzi (xs (i + 1)) (xs (i + 2)) (fun q h => Or.inl h) (Or.inr rfl) (fun z => z.2 ⟨by omega, by omega⟩)) zw_419 zw_420 zw_0 zw_421 zd_L_setCost ⟨Nat.le_of_ble_eq_true rfl, Nat.le_of_ble_eq_true rfl⟩ (hI.2.1.narrow (hI.la (Or.inl rfl))) (hI.nl _) ⟨hI.nx, hI.2.2.1, hI.2.2.2.2.1⟩ hl.1 (Nat.le_of_ble_eq_true rfl) dL_law_262 ⟨Nat.le_trans (Nat.add_le_add_left (Nat.le_of_ble_eq_true rfl) _) hc, Nat.le_trans (Nat.add_le_add_left (Nat.le_of_ble_eq_true rfl) _) hs⟩) hS (hI.la (Or.inl rfl)) (fun v H locs hq hF hS => ?_)
  obtain ⟨rfl, hX1, v1, hv1, hve⟩ := hq
  have hI := hI.onL hF hX1 hv1
  refine W.widen (k := cells + 10) (n := slots + 200) (Nat.add_le_add_left (Nat.le_of_ble_eq_true rfl) _) (Nat.add_le_add_left (Nat.le_of_ble_eq_true rfl) _) ?_
  refine W.eq (g2 := F0 m 265 ls [.int (nI ((zs_setCost N (xs (i + 1)) (xs (i + 2))).1))]) rfl ?_
  refine lv_istore (lv' := [(6, .int (nI ((zs_setCost N (xs (i + 1)) (xs (i + 2))).1))), (5, .int (nI i)), (4, .ref (om + 15)), (3, .ref (om + 14)), (2, .ref (zv_ad om 0 0)), (1, .ref s.heap.size), (0, .ref b)]) hx hb dL_law_265 hl (Nat.le_of_ble_eq_true rfl) rfl (fun ls hl => ?_)
  refine lv_aload_n hx hb dL_law_267 rfl (lv_at hl 4 rfl) ?_
  refine lv_aload_n hx hb dL_law_268 rfl (lv_at hl 6 rfl) ?_
  refine lv_iload hx hb dL_law_269 (lv_at hl 1 rfl) ?_
  refine zz_con 1 hx hb dL_law_271 (by decide) ?_
  refine zz_add hx hb dL_law_272 ?_
  refine lw_sld C hS (j := i + 1) (by omega) dL_law_273 ?_
  refine lv_aload_n hx hb dL_law_274 rfl (lv_at hl 6 rfl) ?_
  refine lv_iload hx hb dL_law_275 (lv_at hl 1 rfl) ?_
  refine zz_con 2 hx hb dL_law_277 (by decide) ?_
  refine zz_add hx hb dL_law_278 ?_
  refine lw_sld C hS (j := i + 2) (by omega) dL_law_279 ?_
  refine zz_after (A := lw_A s) (pc := 280) rfl (zz_runV (ci := 6) (q0 := (RX3, TX3, 22)) (b := zv_ad om 0 0) (As := [.int (xs (i + 1)), .int (xs (i + 2))]) (rest := []) hx hb hml hown hts (c_X3_setCost l (K := K) (A := lw_M om H) (ad := zv_ad om) (th := th) (N := N) (G := G) (L := Ls) hzi.q (xs (i + 1)) (xs (i + 2))) zw_895 zw_896 zw_897 zw_5 zw_898 zd_X3_setCost ⟨Nat.le_of_ble_eq_true rfl, Nat.le_of_ble_eq_true rfl⟩ (hI.2.1.narrow hI.ma) (fun q h => Or.inr h) (zm_ob hI.2.2.2.1).1 rfl rfl hI.2.2.2.1.wide hl.1 (Nat.le_of_ble_eq_true rfl) dL_law_280 ⟨hc, hs⟩) hS hI.ma (fun v H locs hq hF hS => ?_)
  obtain ⟨rfl, hM⟩ := hq
  have hI := hI.onM hF (zv_M.slim hM)
  refine W.eq (g2 := F0 m 283 ls [.int ((zs_setCost N (xs (i + 1)) (xs (i + 2))).2.1)]) rfl ?_
  refine lv_istore (lv' := [(7, .int ((zs_setCost N (xs (i + 1)) (xs (i + 2))).2.1)), (6, .int (nI ((zs_setCost N (xs (i + 1)) (xs (i + 2))).1))), (5, .int (nI i)), (4, .ref (om + 15)), (3, .ref (om + 14)), (2, .ref (zv_ad om 0 0)), (1, .ref s.heap.size), (0, .ref b)]) hx hb dL_law_283 hl (Nat.le_of_ble_eq_true rfl) rfl (fun ls hl => ?_)
  refine lv_aload_n hx hb dL_law_285 rfl (lv_at hl 5 rfl) ?_
  refine zz_after (A := lw_A s) (pc := 286) rfl (zz_runV (ci := 6) (q0 := (RX3, TX3, 22)) (b := zv_ad om 0 0) (As := []) (rest := []) hx hb hml hown hts (c_X3_thrown l (K := K) (A := lw_M om H) (ad := zv_ad om) (th := nI ((zs_setCost N (xs (i + 1)) (xs (i + 2))).1))) zw_876 zw_877 zw_878 zw_5 zw_879 zd_X3_thrown ⟨Nat.le_of_ble_eq_true rfl, Nat.le_of_ble_eq_true rfl⟩ (hI.2.1.narrow hI.ma) (fun q h => Or.inr h) (zm_ob hI.2.2.2.1).1 rfl rfl hI.2.2.2.1.wide hl.1 (Nat.le_of_ble_eq_true rfl) dL_law_286 ⟨hc, hs⟩) hS (fun _ z => z.elim) (fun v H locs hq hF hS => ?_)
  obtain rfl := hq
  have hI := hI.ro hF
  refine W.eq (g2 := F0 m 289 ls [.int (nI ((zs_setCost N (xs (i + 1)) (xs (i + 2))).1))]) rfl ?_
  refine lv_iload hx hb dL_law_289 (lv_at hl 1 rfl) ?_
  refine lv_icmp_eq (tgt := 296) hx hb dL_law_291 (by decide) (fun _ => ?_) (fun h9 => absurd rfl h9)
  refine lv_iload hx hb dL_law_296 (lv_at hl 1 rfl) ?_
  refine lv_if_ne (tgt := 313) hx hb dL_law_298 (by decide) (fun h9 => ?_) (fun h9 => ?_)
  · skip
    refine lv_goto (tgt := 1502) hx hb dL_law_313 (by decide) ?_
    exact kk _ _ _ hS ⟨_, _, _, _, _, _, ki_setCost hzi _ _, zgi_co kg_setCost hg, hI⟩ (lv_sub hl [2, 3, 4, 5, 6, 7] rfl)
  · skip
    have e9 := hve h9
    obtain ⟨f9, hat9, hf9⟩ := hI.2.2.2.2.1
    refine lv_aload_n hx hb dL_law_301 rfl (lv_at hl 4 rfl) ?_
    refine zz_con 0 hx hb dL_law_302 (by decide) ?_
    refine zz_lald (y := v1) hx hb hI.2.1.K hat9 (vp_in_nI (by decide) (by decide)) dL_law_303 (by rw [nI_clamp (by decide)]; exact hf9) ?_
    rw [e9]
    refine lv_iload hx hb dL_law_304 (lv_at hl 0 rfl) ?_
    refine lv_i2l hx hb dL_law_306 rfl ?_
    refine W.lcmp hx hb dL_law_307 ?_
    rw [lg_cmp_self]
    refine lv_if_eq (tgt := 313) hx hb dL_law_308 (by decide) (fun _ => ?_) (fun h8 => absurd rfl h8)
    refine lv_goto (tgt := 1502) hx hb dL_law_313 (by decide) ?_
    exact kk _ _ _ hS ⟨_, _, _, _, _, _, ki_setCost hzi _ _, zgi_co kg_setCost hg, hI⟩ (lv_sub hl [2, 3, 4, 5, 6, 7] rfl)

set_option maxHeartbeats 4000000 in
set_option maxRecDepth 100000 in
theorem lawc_addPerson {p : Program} (l : Launch) (hfl : l.stackTraces = false) {e : Env} {s : State} {m : MethodId} {below : List Frame} {meth : Method} {c : Code} {H : Heap} {locs : List Loc} {cells slots : Nat} {Q : State → Prop} {b L : Nat} {xs : Nat → Int32} {ls : Array Slot} {K : zz_G} {om i : Nat} {th : Int32} {vl : Int64} {vd : UInt64} {N : Nat → Nat → Nat} {G : Nat → Nat → Int32} {Ls : Nat → Int64} (C : lw_C p s m c b L xs) (hi : i + 3 ≤ L) (hzi : zi N) (hg : zgi N G) (hS : va_S (lw_A s) s.heap H locs) (hI : zv_I K s om th vl vd N G Ls N G Ls H) (hl : lv_has ls 9 [(5, .int (nI i)), (4, .ref (om + 15)), (3, .ref (om + 14)), (2, .ref (zv_ad om 0 0)), (1, .ref s.heap.size), (0, .ref b)]) (hc : cells + 10 ≤ room_1.cells) (hs : slots + 200 ≤ room_1.slots)
    (kk : ∀ (H1 : Heap) (locs1 : List Loc) (ls1 : Array Slot), va_S (lw_A s) s.heap H1 locs1 → lw_V K s om H1 → lv_has ls1 9 [(5, .int (nI i)), (4, .ref (om + 15)), (3, .ref (om + 14)), (2, .ref (zv_ad om 0 0)), (1, .ref s.heap.size), (0, .ref b)] → W p l e room_1 s m #[Value.ref b] below meth c H1 locs1 (cells + 10) (slots + 200) Q (F0 m 1502 ls1 [])) : W p l e room_1 s m #[Value.ref b] below meth c H locs cells slots Q (F0 m 316 ls []) := by
  obtain ⟨hx, hb, hml, hown, hts, hXX, hbl, hL⟩ := id C
  have hom := hI.1
  refine lv_aload_n hx hb dL_law_316 rfl (lv_at hl 4 rfl) ?_
  refine lv_aload_n hx hb dL_law_317 rfl (lv_at hl 5 rfl) ?_
  refine lv_iload hx hb dL_law_318 (lv_at hl 0 rfl) ?_
  refine zz_con 1 hx hb dL_law_320 (by decide) ?_
  refine zz_add hx hb dL_law_321 ?_
  refine lw_sld C hS (j := i + 1) (by omega) dL_law_322 ?_
  refine lv_aload_n hx hb dL_law_323 rfl (lv_at hl 2 rfl) ?_
  refine zz_after (A := lw_A s) (pc := 324) rfl (zz_runSH (As := [.ref s.heap.size, .int (xs (i + 1)), .ref (om + 14)]) (rest := []) hx hb hml hown hts (c_L_addPerson l hfl (K := K) (A := lw_L s om (om + 14)) (Ax := lw_X s om) (ox := s.heap.size) (ol := om + 14) (v0 := vl) (N := N) (G := G) (L := Ls) hzi (xs (i + 1)) (fun q h => Or.inl h) (Or.inr rfl) (fun z => z.2 ⟨by omega, by omega⟩)) zw_467 zw_468 zw_0 zw_469 zd_L_addPerson ⟨Nat.le_of_ble_eq_true rfl, Nat.le_of_ble_eq_true rfl⟩ (hI.2.1.narrow (hI.la (Or.inl rfl))) (hI.nl _) ⟨hI.nx, hI.2.2.1, hI.2.2.2.2.1⟩ hl.1 (Nat.le_of_ble_eq_true rfl) dL_law_324 ⟨Nat.le_trans (Nat.add_le_add_left (Nat.le_of_ble_eq_true rfl) _) hc, Nat.le_trans (Nat.add_le_add_left (Nat.le_of_ble_eq_true rfl) _) hs⟩) hS (hI.la (Or.inl rfl)) (fun v H locs hq hF hS => ?_)
  obtain ⟨rfl, hX1, v1, hv1, hve⟩ := hq
  have hI := hI.onL hF hX1 hv1
  refine W.widen (k := cells + 10) (n := slots + 200) (Nat.add_le_add_left (Nat.le_of_ble_eq_true rfl) _) (Nat.add_le_add_left (Nat.le_of_ble_eq_true rfl) _) ?_
  refine W.eq (g2 := F0 m 327 ls [.int (nI ((zs_addPerson N (xs (i + 1))).1))]) rfl ?_
  refine lv_istore (lv' := [(6, .int (nI ((zs_addPerson N (xs (i + 1))).1))), (5, .int (nI i)), (4, .ref (om + 15)), (3, .ref (om + 14)), (2, .ref (zv_ad om 0 0)), (1, .ref s.heap.size), (0, .ref b)]) hx hb dL_law_327 hl (Nat.le_of_ble_eq_true rfl) rfl (fun ls hl => ?_)
  refine lv_aload_n hx hb dL_law_329 rfl (lv_at hl 4 rfl) ?_
  refine lv_aload_n hx hb dL_law_330 rfl (lv_at hl 6 rfl) ?_
  refine lv_iload hx hb dL_law_331 (lv_at hl 1 rfl) ?_
  refine zz_con 1 hx hb dL_law_333 (by decide) ?_
  refine zz_add hx hb dL_law_334 ?_
  refine lw_sld C hS (j := i + 1) (by omega) dL_law_335 ?_
  refine zz_after (A := lw_A s) (pc := 336) rfl (zz_runV (ci := 6) (q0 := (RX3, TX3, 22)) (b := zv_ad om 0 0) (As := [.int (xs (i + 1))]) (rest := []) hx hb hml hown hts (c_X3_addPerson l (K := K) (A := lw_M om H) (ad := zv_ad om) (th := th) (N := N) (G := G) (L := Ls) hzi.q (xs (i + 1))) zw_903 zw_904 zw_905 zw_5 zw_906 zd_X3_addPerson ⟨Nat.le_of_ble_eq_true rfl, Nat.le_of_ble_eq_true rfl⟩ (hI.2.1.narrow hI.ma) (fun q h => Or.inr h) (zm_ob hI.2.2.2.1).1 rfl rfl hI.2.2.2.1.wide hl.1 (Nat.le_of_ble_eq_true rfl) dL_law_336 ⟨hc, hs⟩) hS hI.ma (fun v H locs hq hF hS => ?_)
  obtain ⟨rfl, hM⟩ := hq
  have hI := hI.onM hF (zv_M.slim hM)
  refine W.eq (g2 := F0 m 339 ls [.int ((zs_addPerson N (xs (i + 1))).2.1)]) rfl ?_
  refine lv_istore (lv' := [(7, .int ((zs_addPerson N (xs (i + 1))).2.1)), (6, .int (nI ((zs_addPerson N (xs (i + 1))).1))), (5, .int (nI i)), (4, .ref (om + 15)), (3, .ref (om + 14)), (2, .ref (zv_ad om 0 0)), (1, .ref s.heap.size), (0, .ref b)]) hx hb dL_law_339 hl (Nat.le_of_ble_eq_true rfl) rfl (fun ls hl => ?_)
  refine lv_aload_n hx hb dL_law_341 rfl (lv_at hl 5 rfl) ?_
  refine zz_after (A := lw_A s) (pc := 342) rfl (zz_runV (ci := 6) (q0 := (RX3, TX3, 22)) (b := zv_ad om 0 0) (As := []) (rest := []) hx hb hml hown hts (c_X3_thrown l (K := K) (A := lw_M om H) (ad := zv_ad om) (th := nI ((zs_addPerson N (xs (i + 1))).1))) zw_876 zw_877 zw_878 zw_5 zw_879 zd_X3_thrown ⟨Nat.le_of_ble_eq_true rfl, Nat.le_of_ble_eq_true rfl⟩ (hI.2.1.narrow hI.ma) (fun q h => Or.inr h) (zm_ob hI.2.2.2.1).1 rfl rfl hI.2.2.2.1.wide hl.1 (Nat.le_of_ble_eq_true rfl) dL_law_342 ⟨hc, hs⟩) hS (fun _ z => z.elim) (fun v H locs hq hF hS => ?_)
  obtain rfl := hq
  have hI := hI.ro hF
  refine W.eq (g2 := F0 m 345 ls [.int (nI ((zs_addPerson N (xs (i + 1))).1))]) rfl ?_
  refine lv_iload hx hb dL_law_345 (lv_at hl 1 rfl) ?_
  refine lv_icmp_eq (tgt := 352) hx hb dL_law_347 (by decide) (fun _ => ?_) (fun h9 => absurd rfl h9)
  refine lv_iload hx hb dL_law_352 (lv_at hl 1 rfl) ?_
  refine lv_if_ne (tgt := 369) hx hb dL_law_354 (by decide) (fun h9 => ?_) (fun h9 => ?_)
  · skip
    refine lv_goto (tgt := 1502) hx hb dL_law_369 (by decide) ?_
    exact kk _ _ _ hS ⟨_, _, _, _, _, _, ki_addPerson hzi _, zgi_co kg_addPerson hg, hI⟩ (lv_sub hl [2, 3, 4, 5, 6, 7] rfl)
  · skip
    have e9 := hve h9
    obtain ⟨f9, hat9, hf9⟩ := hI.2.2.2.2.1
    refine lv_aload_n hx hb dL_law_357 rfl (lv_at hl 4 rfl) ?_
    refine zz_con 0 hx hb dL_law_358 (by decide) ?_
    refine zz_lald (y := v1) hx hb hI.2.1.K hat9 (vp_in_nI (by decide) (by decide)) dL_law_359 (by rw [nI_clamp (by decide)]; exact hf9) ?_
    rw [e9]
    refine lv_iload hx hb dL_law_360 (lv_at hl 0 rfl) ?_
    refine lv_i2l hx hb dL_law_362 rfl ?_
    refine W.lcmp hx hb dL_law_363 ?_
    rw [lg_cmp_self]
    refine lv_if_eq (tgt := 369) hx hb dL_law_364 (by decide) (fun _ => ?_) (fun h8 => absurd rfl h8)
    refine lv_goto (tgt := 1502) hx hb dL_law_369 (by decide) ?_
    exact kk _ _ _ hS ⟨_, _, _, _, _, _, ki_addPerson hzi _, zgi_co kg_addPerson hg, hI⟩ (lv_sub hl [2, 3, 4, 5, 6, 7] rfl)

set_option maxHeartbeats 4000000 in
set_option maxRecDepth 100000 in
theorem lawc_standing {p : Program} (l : Launch) (hfl : l.stackTraces = false) {e : Env} {s : State} {m : MethodId} {below : List Frame} {meth : Method} {c : Code} {H : Heap} {locs : List Loc} {cells slots : Nat} {Q : State → Prop} {b L : Nat} {xs : Nat → Int32} {ls : Array Slot} {K : zz_G} {om i : Nat} {th : Int32} {vl : Int64} {vd : UInt64} {N : Nat → Nat → Nat} {G : Nat → Nat → Int32} {Ls : Nat → Int64} (C : lw_C p s m c b L xs) (hi : i + 3 ≤ L) (hzi : zi N) (hg : zgi N G) (hS : va_S (lw_A s) s.heap H locs) (hI : zv_I K s om th vl vd N G Ls N G Ls H) (hl : lv_has ls 9 [(5, .int (nI i)), (4, .ref (om + 15)), (3, .ref (om + 14)), (2, .ref (zv_ad om 0 0)), (1, .ref s.heap.size), (0, .ref b)]) (hc : cells + 10 ≤ room_1.cells) (hs : slots + 200 ≤ room_1.slots)
    (kk : ∀ (H1 : Heap) (locs1 : List Loc) (ls1 : Array Slot), va_S (lw_A s) s.heap H1 locs1 → lw_V K s om H1 → lv_has ls1 9 [(5, .int (nI i)), (4, .ref (om + 15)), (3, .ref (om + 14)), (2, .ref (zv_ad om 0 0)), (1, .ref s.heap.size), (0, .ref b)] → W p l e room_1 s m #[Value.ref b] below meth c H1 locs1 (cells + 10) (slots + 200) Q (F0 m 1502 ls1 [])) : W p l e room_1 s m #[Value.ref b] below meth c H locs cells slots Q (F0 m 372 ls []) := by
  obtain ⟨hx, hb, hml, hown, hts, hXX, hbl, hL⟩ := id C
  have hom := hI.1
  refine lv_aload_n hx hb dL_law_372 rfl (lv_at hl 4 rfl) ?_
  refine lv_aload_n hx hb dL_law_373 rfl (lv_at hl 5 rfl) ?_
  refine lv_iload hx hb dL_law_374 (lv_at hl 0 rfl) ?_
  refine zz_con 1 hx hb dL_law_376 (by decide) ?_
  refine zz_add hx hb dL_law_377 ?_
  refine lw_sld C hS (j := i + 1) (by omega) dL_law_378 ?_
  refine lv_aload_n hx hb dL_law_379 rfl (lv_at hl 2 rfl) ?_
  refine zz_after (A := lw_A s) (pc := 380) rfl (zz_runSH (As := [.ref s.heap.size, .int (xs (i + 1)), .ref (om + 14)]) (rest := []) hx hb hml hown hts (c_L_standing l hfl (K := K) (A := lw_L s om (om + 14)) (Ax := lw_X s om) (ox := s.heap.size) (ol := om + 14) (v0 := vl) (N := N) (G := G) (L := Ls) hzi (xs (i + 1)) (fun q h => Or.inl h) (Or.inr rfl) (fun z => z.2 ⟨by omega, by omega⟩)) zw_513 zw_514 zw_0 zw_515 zd_L_standing ⟨Nat.le_of_ble_eq_true rfl, Nat.le_of_ble_eq_true rfl⟩ (hI.2.1.narrow (hI.la (Or.inl rfl))) (hI.nl _) ⟨hI.nx, hI.2.2.1, hI.2.2.2.2.1⟩ hl.1 (Nat.le_of_ble_eq_true rfl) dL_law_380 ⟨Nat.le_trans (Nat.add_le_add_left (Nat.le_of_ble_eq_true rfl) _) hc, Nat.le_trans (Nat.add_le_add_left (Nat.le_of_ble_eq_true rfl) _) hs⟩) hS (hI.la (Or.inl rfl)) (fun v H locs hq hF hS => ?_)
  obtain ⟨rfl, hX1, v1, hv1, hve⟩ := hq
  have hI := hI.onL hF hX1 hv1
  refine W.widen (k := cells + 10) (n := slots + 200) (Nat.add_le_add_left (Nat.le_of_ble_eq_true rfl) _) (Nat.add_le_add_left (Nat.le_of_ble_eq_true rfl) _) ?_
  refine W.eq (g2 := F0 m 383 ls [.int (nI ((zs_standing N (xs (i + 1))).1))]) rfl ?_
  refine lv_istore (lv' := [(6, .int (nI ((zs_standing N (xs (i + 1))).1))), (5, .int (nI i)), (4, .ref (om + 15)), (3, .ref (om + 14)), (2, .ref (zv_ad om 0 0)), (1, .ref s.heap.size), (0, .ref b)]) hx hb dL_law_383 hl (Nat.le_of_ble_eq_true rfl) rfl (fun ls hl => ?_)
  refine lv_aload_n hx hb dL_law_385 rfl (lv_at hl 4 rfl) ?_
  refine lv_aload_n hx hb dL_law_386 rfl (lv_at hl 6 rfl) ?_
  refine lv_iload hx hb dL_law_387 (lv_at hl 1 rfl) ?_
  refine zz_con 1 hx hb dL_law_389 (by decide) ?_
  refine zz_add hx hb dL_law_390 ?_
  refine lw_sld C hS (j := i + 1) (by omega) dL_law_391 ?_
  refine zz_after (A := lw_A s) (pc := 392) rfl (zz_runV (ci := 6) (q0 := (RX3, TX3, 22)) (b := zv_ad om 0 0) (As := [.int (xs (i + 1))]) (rest := []) hx hb hml hown hts (c_X3_standing l (K := K) (A := lw_M om H) (ad := zv_ad om) (th := th) (N := N) (G := G) (L := Ls) hzi.q (xs (i + 1))) zw_907 zw_908 zw_909 zw_5 zw_910 zd_X3_standing ⟨Nat.le_of_ble_eq_true rfl, Nat.le_of_ble_eq_true rfl⟩ (hI.2.1.narrow hI.ma) (fun q h => Or.inr h) (zm_ob hI.2.2.2.1).1 rfl rfl hI.2.2.2.1.wide hl.1 (Nat.le_of_ble_eq_true rfl) dL_law_392 ⟨hc, hs⟩) hS hI.ma (fun v H locs hq hF hS => ?_)
  obtain ⟨rfl, hM⟩ := hq
  have hI := hI.onM hF (zv_M.slim hM)
  refine W.eq (g2 := F0 m 395 ls [.int ((zs_standing N (xs (i + 1))).2)]) rfl ?_
  refine lv_istore (lv' := [(7, .int ((zs_standing N (xs (i + 1))).2)), (6, .int (nI ((zs_standing N (xs (i + 1))).1))), (5, .int (nI i)), (4, .ref (om + 15)), (3, .ref (om + 14)), (2, .ref (zv_ad om 0 0)), (1, .ref s.heap.size), (0, .ref b)]) hx hb dL_law_395 hl (Nat.le_of_ble_eq_true rfl) rfl (fun ls hl => ?_)
  refine lv_aload_n hx hb dL_law_397 rfl (lv_at hl 5 rfl) ?_
  refine zz_after (A := lw_A s) (pc := 398) rfl (zz_runV (ci := 6) (q0 := (RX3, TX3, 22)) (b := zv_ad om 0 0) (As := []) (rest := []) hx hb hml hown hts (c_X3_thrown l (K := K) (A := lw_M om H) (ad := zv_ad om) (th := nI ((zs_standing N (xs (i + 1))).1))) zw_876 zw_877 zw_878 zw_5 zw_879 zd_X3_thrown ⟨Nat.le_of_ble_eq_true rfl, Nat.le_of_ble_eq_true rfl⟩ (hI.2.1.narrow hI.ma) (fun q h => Or.inr h) (zm_ob hI.2.2.2.1).1 rfl rfl hI.2.2.2.1.wide hl.1 (Nat.le_of_ble_eq_true rfl) dL_law_398 ⟨hc, hs⟩) hS (fun _ z => z.elim) (fun v H locs hq hF hS => ?_)
  obtain rfl := hq
  have hI := hI.ro hF
  refine W.eq (g2 := F0 m 401 ls [.int (nI ((zs_standing N (xs (i + 1))).1))]) rfl ?_
  refine lv_iload hx hb dL_law_401 (lv_at hl 1 rfl) ?_
  refine lv_icmp_eq (tgt := 408) hx hb dL_law_403 (by decide) (fun _ => ?_) (fun h9 => absurd rfl h9)
  refine lv_iload hx hb dL_law_408 (lv_at hl 1 rfl) ?_
  refine lv_if_ne (tgt := 425) hx hb dL_law_410 (by decide) (fun h9 => ?_) (fun h9 => ?_)
  · skip
    refine lv_goto (tgt := 1502) hx hb dL_law_425 (by decide) ?_
    exact kk _ _ _ hS ⟨_, _, _, _, _, _, hzi, hg, hI⟩ (lv_sub hl [2, 3, 4, 5, 6, 7] rfl)
  · skip
    have e9 := hve h9
    obtain ⟨f9, hat9, hf9⟩ := hI.2.2.2.2.1
    refine lv_aload_n hx hb dL_law_413 rfl (lv_at hl 4 rfl) ?_
    refine zz_con 0 hx hb dL_law_414 (by decide) ?_
    refine zz_lald (y := v1) hx hb hI.2.1.K hat9 (vp_in_nI (by decide) (by decide)) dL_law_415 (by rw [nI_clamp (by decide)]; exact hf9) ?_
    rw [e9]
    refine lv_iload hx hb dL_law_416 (lv_at hl 0 rfl) ?_
    refine lv_i2l hx hb dL_law_418 rfl ?_
    refine W.lcmp hx hb dL_law_419 ?_
    rw [lg_cmp_self]
    refine lv_if_eq (tgt := 425) hx hb dL_law_420 (by decide) (fun _ => ?_) (fun h8 => absurd rfl h8)
    refine lv_goto (tgt := 1502) hx hb dL_law_425 (by decide) ?_
    exact kk _ _ _ hS ⟨_, _, _, _, _, _, hzi, hg, hI⟩ (lv_sub hl [2, 3, 4, 5, 6, 7] rfl)

set_option maxHeartbeats 4000000 in
set_option maxRecDepth 100000 in
theorem lawc_book {p : Program} (l : Launch) (hfl : l.stackTraces = false) {e : Env} {s : State} {m : MethodId} {below : List Frame} {meth : Method} {c : Code} {H : Heap} {locs : List Loc} {cells slots : Nat} {Q : State → Prop} {b L : Nat} {xs : Nat → Int32} {ls : Array Slot} {K : zz_G} {om i : Nat} {th : Int32} {vl : Int64} {vd : UInt64} {N : Nat → Nat → Nat} {G : Nat → Nat → Int32} {Ls : Nat → Int64} (C : lw_C p s m c b L xs) (hi : i + 3 ≤ L) (hzi : zi N) (hg : zgi N G) (hS : va_S (lw_A s) s.heap H locs) (hI : zv_I K s om th vl vd N G Ls N G Ls H) (hl : lv_has ls 9 [(5, .int (nI i)), (4, .ref (om + 15)), (3, .ref (om + 14)), (2, .ref (zv_ad om 0 0)), (1, .ref s.heap.size), (0, .ref b)]) (hc : cells + 10 ≤ room_1.cells) (hs : slots + 200 ≤ room_1.slots)
    (kk : ∀ (H1 : Heap) (locs1 : List Loc) (ls1 : Array Slot), va_S (lw_A s) s.heap H1 locs1 → lw_V K s om H1 → lv_has ls1 9 [(5, .int (nI i)), (4, .ref (om + 15)), (3, .ref (om + 14)), (2, .ref (zv_ad om 0 0)), (1, .ref s.heap.size), (0, .ref b)] → W p l e room_1 s m #[Value.ref b] below meth c H1 locs1 (cells + 10) (slots + 200) Q (F0 m 1502 ls1 [])) : W p l e room_1 s m #[Value.ref b] below meth c H locs cells slots Q (F0 m 428 ls []) := by
  obtain ⟨hx, hb, hml, hown, hts, hXX, hbl, hL⟩ := id C
  have hom := hI.1
  refine lv_aload_n hx hb dL_law_428 rfl (lv_at hl 4 rfl) ?_
  refine lv_aload_n hx hb dL_law_429 rfl (lv_at hl 5 rfl) ?_
  refine lv_iload hx hb dL_law_430 (lv_at hl 0 rfl) ?_
  refine zz_con 1 hx hb dL_law_432 (by decide) ?_
  refine zz_add hx hb dL_law_433 ?_
  refine lw_sld C hS (j := i + 1) (by omega) dL_law_434 ?_
  refine lv_aload_n hx hb dL_law_435 rfl (lv_at hl 5 rfl) ?_
  refine lv_iload hx hb dL_law_436 (lv_at hl 0 rfl) ?_
  refine zz_con 2 hx hb dL_law_438 (by decide) ?_
  refine zz_add hx hb dL_law_439 ?_
  refine lw_sld C hS (j := i + 2) (by omega) dL_law_440 ?_
  refine lv_aload_n hx hb dL_law_441 rfl (lv_at hl 2 rfl) ?_
  refine zz_after (A := lw_A s) (pc := 442) rfl (zz_runSH (As := [.ref s.heap.size, .int (xs (i + 1)), .int (xs (i + 2)), .ref (om + 14)]) (rest := []) hx hb hml hown hts (c_L_book l hfl (K := K) (A := lw_L s om (om + 14)) (Ax := lw_X s om) (ox := s.heap.size) (ol := om + 14) (v0 := vl) (N := N) (G := G) (L := Ls) hzi (xs (i + 1)) (xs (i + 2)) (fun q h => Or.inl h) (Or.inr rfl) (fun z => z.2 ⟨by omega, by omega⟩)) zw_541 zw_542 zw_0 zw_543 zd_L_book ⟨Nat.le_of_ble_eq_true rfl, Nat.le_of_ble_eq_true rfl⟩ (hI.2.1.narrow (hI.la (Or.inl rfl))) (hI.nl _) ⟨hI.nx, hI.2.2.1, hI.2.2.2.2.1⟩ hl.1 (Nat.le_of_ble_eq_true rfl) dL_law_442 ⟨Nat.le_trans (Nat.add_le_add_left (Nat.le_of_ble_eq_true rfl) _) hc, Nat.le_trans (Nat.add_le_add_left (Nat.le_of_ble_eq_true rfl) _) hs⟩) hS (hI.la (Or.inl rfl)) (fun v H locs hq hF hS => ?_)
  obtain ⟨rfl, hX1, v1, hv1, hve⟩ := hq
  have hI := hI.onL hF hX1 hv1
  refine W.widen (k := cells + 10) (n := slots + 200) (Nat.add_le_add_left (Nat.le_of_ble_eq_true rfl) _) (Nat.add_le_add_left (Nat.le_of_ble_eq_true rfl) _) ?_
  refine W.eq (g2 := F0 m 445 ls [.int (nI ((zs_book N (xs (i + 1)) (xs (i + 2))).1))]) rfl ?_
  refine lv_istore (lv' := [(6, .int (nI ((zs_book N (xs (i + 1)) (xs (i + 2))).1))), (5, .int (nI i)), (4, .ref (om + 15)), (3, .ref (om + 14)), (2, .ref (zv_ad om 0 0)), (1, .ref s.heap.size), (0, .ref b)]) hx hb dL_law_445 hl (Nat.le_of_ble_eq_true rfl) rfl (fun ls hl => ?_)
  refine lv_aload_n hx hb dL_law_447 rfl (lv_at hl 4 rfl) ?_
  refine lv_aload_n hx hb dL_law_448 rfl (lv_at hl 6 rfl) ?_
  refine lv_iload hx hb dL_law_449 (lv_at hl 1 rfl) ?_
  refine zz_con 1 hx hb dL_law_451 (by decide) ?_
  refine zz_add hx hb dL_law_452 ?_
  refine lw_sld C hS (j := i + 1) (by omega) dL_law_453 ?_
  refine lv_aload_n hx hb dL_law_454 rfl (lv_at hl 6 rfl) ?_
  refine lv_iload hx hb dL_law_455 (lv_at hl 1 rfl) ?_
  refine zz_con 2 hx hb dL_law_457 (by decide) ?_
  refine zz_add hx hb dL_law_458 ?_
  refine lw_sld C hS (j := i + 2) (by omega) dL_law_459 ?_
  refine zz_after (A := lw_A s) (pc := 460) rfl (zz_runV (ci := 6) (q0 := (RX3, TX3, 22)) (b := zv_ad om 0 0) (As := [.int (xs (i + 1)), .int (xs (i + 2))]) (rest := []) hx hb hml hown hts (c_X3_book l (K := K) (A := lw_M om H) (ad := zv_ad om) (th := th) (N := N) (G := G) (L := Ls) hzi.q (xs (i + 1)) (xs (i + 2))) zw_915 zw_916 zw_917 zw_5 zw_918 zd_X3_book ⟨Nat.le_of_ble_eq_true rfl, Nat.le_of_ble_eq_true rfl⟩ (hI.2.1.narrow hI.ma) (fun q h => Or.inr h) (zm_ob hI.2.2.2.1).1 rfl rfl hI.2.2.2.1.wide hl.1 (Nat.le_of_ble_eq_true rfl) dL_law_460 ⟨hc, hs⟩) hS hI.ma (fun v H locs hq hF hS => ?_)
  obtain ⟨rfl, hM⟩ := hq
  have hI := hI.onM hF (zv_M.slim hM)
  refine W.eq (g2 := F0 m 463 ls [.int ((zs_book N (xs (i + 1)) (xs (i + 2))).2.1)]) rfl ?_
  refine lv_istore (lv' := [(7, .int ((zs_book N (xs (i + 1)) (xs (i + 2))).2.1)), (6, .int (nI ((zs_book N (xs (i + 1)) (xs (i + 2))).1))), (5, .int (nI i)), (4, .ref (om + 15)), (3, .ref (om + 14)), (2, .ref (zv_ad om 0 0)), (1, .ref s.heap.size), (0, .ref b)]) hx hb dL_law_463 hl (Nat.le_of_ble_eq_true rfl) rfl (fun ls hl => ?_)
  refine lv_aload_n hx hb dL_law_465 rfl (lv_at hl 5 rfl) ?_
  refine zz_after (A := lw_A s) (pc := 466) rfl (zz_runV (ci := 6) (q0 := (RX3, TX3, 22)) (b := zv_ad om 0 0) (As := []) (rest := []) hx hb hml hown hts (c_X3_thrown l (K := K) (A := lw_M om H) (ad := zv_ad om) (th := nI ((zs_book N (xs (i + 1)) (xs (i + 2))).1))) zw_876 zw_877 zw_878 zw_5 zw_879 zd_X3_thrown ⟨Nat.le_of_ble_eq_true rfl, Nat.le_of_ble_eq_true rfl⟩ (hI.2.1.narrow hI.ma) (fun q h => Or.inr h) (zm_ob hI.2.2.2.1).1 rfl rfl hI.2.2.2.1.wide hl.1 (Nat.le_of_ble_eq_true rfl) dL_law_466 ⟨hc, hs⟩) hS (fun _ z => z.elim) (fun v H locs hq hF hS => ?_)
  obtain rfl := hq
  have hI := hI.ro hF
  refine W.eq (g2 := F0 m 469 ls [.int (nI ((zs_book N (xs (i + 1)) (xs (i + 2))).1))]) rfl ?_
  refine lv_iload hx hb dL_law_469 (lv_at hl 1 rfl) ?_
  refine lv_icmp_eq (tgt := 476) hx hb dL_law_471 (by decide) (fun _ => ?_) (fun h9 => absurd rfl h9)
  refine lv_iload hx hb dL_law_476 (lv_at hl 1 rfl) ?_
  refine lv_if_ne (tgt := 493) hx hb dL_law_478 (by decide) (fun h9 => ?_) (fun h9 => ?_)
  · skip
    refine lv_goto (tgt := 1502) hx hb dL_law_493 (by decide) ?_
    exact kk _ _ _ hS ⟨_, _, _, _, _, _, ki_book hzi _ _, zgi_co kg_book hg, hI⟩ (lv_sub hl [2, 3, 4, 5, 6, 7] rfl)
  · skip
    have e9 := hve h9
    obtain ⟨f9, hat9, hf9⟩ := hI.2.2.2.2.1
    refine lv_aload_n hx hb dL_law_481 rfl (lv_at hl 4 rfl) ?_
    refine zz_con 0 hx hb dL_law_482 (by decide) ?_
    refine zz_lald (y := v1) hx hb hI.2.1.K hat9 (vp_in_nI (by decide) (by decide)) dL_law_483 (by rw [nI_clamp (by decide)]; exact hf9) ?_
    rw [e9]
    refine lv_iload hx hb dL_law_484 (lv_at hl 0 rfl) ?_
    refine lv_i2l hx hb dL_law_486 rfl ?_
    refine W.lcmp hx hb dL_law_487 ?_
    rw [lg_cmp_self]
    refine lv_if_eq (tgt := 493) hx hb dL_law_488 (by decide) (fun _ => ?_) (fun h8 => absurd rfl h8)
    refine lv_goto (tgt := 1502) hx hb dL_law_493 (by decide) ?_
    exact kk _ _ _ hS ⟨_, _, _, _, _, _, ki_book hzi _ _, zgi_co kg_book hg, hI⟩ (lv_sub hl [2, 3, 4, 5, 6, 7] rfl)

set_option maxHeartbeats 4000000 in
set_option maxRecDepth 100000 in
theorem lawc_cancel {p : Program} (l : Launch) (hfl : l.stackTraces = false) {e : Env} {s : State} {m : MethodId} {below : List Frame} {meth : Method} {c : Code} {H : Heap} {locs : List Loc} {cells slots : Nat} {Q : State → Prop} {b L : Nat} {xs : Nat → Int32} {ls : Array Slot} {K : zz_G} {om i : Nat} {th : Int32} {vl : Int64} {vd : UInt64} {N : Nat → Nat → Nat} {G : Nat → Nat → Int32} {Ls : Nat → Int64} (C : lw_C p s m c b L xs) (hi : i + 3 ≤ L) (hzi : zi N) (hg : zgi N G) (hS : va_S (lw_A s) s.heap H locs) (hI : zv_I K s om th vl vd N G Ls N G Ls H) (hl : lv_has ls 9 [(5, .int (nI i)), (4, .ref (om + 15)), (3, .ref (om + 14)), (2, .ref (zv_ad om 0 0)), (1, .ref s.heap.size), (0, .ref b)]) (hc : cells + 10 ≤ room_1.cells) (hs : slots + 200 ≤ room_1.slots)
    (kk : ∀ (H1 : Heap) (locs1 : List Loc) (ls1 : Array Slot), va_S (lw_A s) s.heap H1 locs1 → lw_V K s om H1 → lv_has ls1 9 [(5, .int (nI i)), (4, .ref (om + 15)), (3, .ref (om + 14)), (2, .ref (zv_ad om 0 0)), (1, .ref s.heap.size), (0, .ref b)] → W p l e room_1 s m #[Value.ref b] below meth c H1 locs1 (cells + 10) (slots + 200) Q (F0 m 1502 ls1 [])) : W p l e room_1 s m #[Value.ref b] below meth c H locs cells slots Q (F0 m 496 ls []) := by
  obtain ⟨hx, hb, hml, hown, hts, hXX, hbl, hL⟩ := id C
  have hom := hI.1
  refine lv_aload_n hx hb dL_law_496 rfl (lv_at hl 4 rfl) ?_
  refine lv_aload_n hx hb dL_law_497 rfl (lv_at hl 5 rfl) ?_
  refine lv_iload hx hb dL_law_498 (lv_at hl 0 rfl) ?_
  refine zz_con 1 hx hb dL_law_500 (by decide) ?_
  refine zz_add hx hb dL_law_501 ?_
  refine lw_sld C hS (j := i + 1) (by omega) dL_law_502 ?_
  refine lv_aload_n hx hb dL_law_503 rfl (lv_at hl 2 rfl) ?_
  refine zz_after (A := lw_A s) (pc := 504) rfl (zz_runSH (As := [.ref s.heap.size, .int (xs (i + 1)), .ref (om + 14)]) (rest := []) hx hb hml hown hts (c_L_cancel l hfl (K := K) (A := lw_L s om (om + 14)) (Ax := lw_X s om) (ox := s.heap.size) (ol := om + 14) (v0 := vl) (N := N) (G := G) (L := Ls) hzi (xs (i + 1)) (fun q h => Or.inl h) (Or.inr rfl) (fun z => z.2 ⟨by omega, by omega⟩)) zw_566 zw_567 zw_0 zw_568 zd_L_cancel ⟨Nat.le_of_ble_eq_true rfl, Nat.le_of_ble_eq_true rfl⟩ (hI.2.1.narrow (hI.la (Or.inl rfl))) (hI.nl _) ⟨hI.nx, hI.2.2.1, hI.2.2.2.2.1⟩ hl.1 (Nat.le_of_ble_eq_true rfl) dL_law_504 ⟨Nat.le_trans (Nat.add_le_add_left (Nat.le_of_ble_eq_true rfl) _) hc, Nat.le_trans (Nat.add_le_add_left (Nat.le_of_ble_eq_true rfl) _) hs⟩) hS (hI.la (Or.inl rfl)) (fun v H locs hq hF hS => ?_)
  obtain ⟨rfl, hX1, v1, hv1, hve⟩ := hq
  have hI := hI.onL hF hX1 hv1
  refine W.widen (k := cells + 10) (n := slots + 200) (Nat.add_le_add_left (Nat.le_of_ble_eq_true rfl) _) (Nat.add_le_add_left (Nat.le_of_ble_eq_true rfl) _) ?_
  refine W.eq (g2 := F0 m 507 ls [.int (nI ((zs_cancel N (xs (i + 1))).1))]) rfl ?_
  refine lv_istore (lv' := [(6, .int (nI ((zs_cancel N (xs (i + 1))).1))), (5, .int (nI i)), (4, .ref (om + 15)), (3, .ref (om + 14)), (2, .ref (zv_ad om 0 0)), (1, .ref s.heap.size), (0, .ref b)]) hx hb dL_law_507 hl (Nat.le_of_ble_eq_true rfl) rfl (fun ls hl => ?_)
  refine lv_aload_n hx hb dL_law_509 rfl (lv_at hl 4 rfl) ?_
  refine lv_aload_n hx hb dL_law_510 rfl (lv_at hl 6 rfl) ?_
  refine lv_iload hx hb dL_law_511 (lv_at hl 1 rfl) ?_
  refine zz_con 1 hx hb dL_law_513 (by decide) ?_
  refine zz_add hx hb dL_law_514 ?_
  refine lw_sld C hS (j := i + 1) (by omega) dL_law_515 ?_
  refine zz_after (A := lw_A s) (pc := 516) rfl (zz_runV (ci := 6) (q0 := (RX3, TX3, 22)) (b := zv_ad om 0 0) (As := [.int (xs (i + 1))]) (rest := []) hx hb hml hown hts (c_X3_cancel l (K := K) (A := lw_M om H) (ad := zv_ad om) (th := th) (N := N) (G := G) (L := Ls) hzi.q (xs (i + 1))) zw_927 zw_928 zw_929 zw_5 zw_930 zd_X3_cancel ⟨Nat.le_of_ble_eq_true rfl, Nat.le_of_ble_eq_true rfl⟩ (hI.2.1.narrow hI.ma) (fun q h => Or.inr h) (zm_ob hI.2.2.2.1).1 rfl rfl hI.2.2.2.1.wide hl.1 (Nat.le_of_ble_eq_true rfl) dL_law_516 ⟨hc, hs⟩) hS hI.ma (fun v H locs hq hF hS => ?_)
  obtain ⟨rfl, hM⟩ := hq
  have hI := hI.onM hF (zv_M.slim hM)
  refine W.eq (g2 := F0 m 519 ls [.int ((zs_cancel N (xs (i + 1))).2.1)]) rfl ?_
  refine lv_istore (lv' := [(7, .int ((zs_cancel N (xs (i + 1))).2.1)), (6, .int (nI ((zs_cancel N (xs (i + 1))).1))), (5, .int (nI i)), (4, .ref (om + 15)), (3, .ref (om + 14)), (2, .ref (zv_ad om 0 0)), (1, .ref s.heap.size), (0, .ref b)]) hx hb dL_law_519 hl (Nat.le_of_ble_eq_true rfl) rfl (fun ls hl => ?_)
  refine lv_aload_n hx hb dL_law_521 rfl (lv_at hl 5 rfl) ?_
  refine zz_after (A := lw_A s) (pc := 522) rfl (zz_runV (ci := 6) (q0 := (RX3, TX3, 22)) (b := zv_ad om 0 0) (As := []) (rest := []) hx hb hml hown hts (c_X3_thrown l (K := K) (A := lw_M om H) (ad := zv_ad om) (th := nI ((zs_cancel N (xs (i + 1))).1))) zw_876 zw_877 zw_878 zw_5 zw_879 zd_X3_thrown ⟨Nat.le_of_ble_eq_true rfl, Nat.le_of_ble_eq_true rfl⟩ (hI.2.1.narrow hI.ma) (fun q h => Or.inr h) (zm_ob hI.2.2.2.1).1 rfl rfl hI.2.2.2.1.wide hl.1 (Nat.le_of_ble_eq_true rfl) dL_law_522 ⟨hc, hs⟩) hS (fun _ z => z.elim) (fun v H locs hq hF hS => ?_)
  obtain rfl := hq
  have hI := hI.ro hF
  refine W.eq (g2 := F0 m 525 ls [.int (nI ((zs_cancel N (xs (i + 1))).1))]) rfl ?_
  refine lv_iload hx hb dL_law_525 (lv_at hl 1 rfl) ?_
  refine lv_icmp_eq (tgt := 532) hx hb dL_law_527 (by decide) (fun _ => ?_) (fun h9 => absurd rfl h9)
  refine lv_iload hx hb dL_law_532 (lv_at hl 1 rfl) ?_
  refine lv_if_ne (tgt := 549) hx hb dL_law_534 (by decide) (fun h9 => ?_) (fun h9 => ?_)
  · skip
    refine lv_goto (tgt := 1502) hx hb dL_law_549 (by decide) ?_
    exact kk _ _ _ hS ⟨_, _, _, _, _, _, ki_cancel hzi _, zgi_co kg_cancel hg, hI⟩ (lv_sub hl [2, 3, 4, 5, 6, 7] rfl)
  · skip
    have e9 := hve h9
    obtain ⟨f9, hat9, hf9⟩ := hI.2.2.2.2.1
    refine lv_aload_n hx hb dL_law_537 rfl (lv_at hl 4 rfl) ?_
    refine zz_con 0 hx hb dL_law_538 (by decide) ?_
    refine zz_lald (y := v1) hx hb hI.2.1.K hat9 (vp_in_nI (by decide) (by decide)) dL_law_539 (by rw [nI_clamp (by decide)]; exact hf9) ?_
    rw [e9]
    refine lv_iload hx hb dL_law_540 (lv_at hl 0 rfl) ?_
    refine lv_i2l hx hb dL_law_542 rfl ?_
    refine W.lcmp hx hb dL_law_543 ?_
    rw [lg_cmp_self]
    refine lv_if_eq (tgt := 549) hx hb dL_law_544 (by decide) (fun _ => ?_) (fun h8 => absurd rfl h8)
    refine lv_goto (tgt := 1502) hx hb dL_law_549 (by decide) ?_
    exact kk _ _ _ hS ⟨_, _, _, _, _, _, ki_cancel hzi _, zgi_co kg_cancel hg, hI⟩ (lv_sub hl [2, 3, 4, 5, 6, 7] rfl)

set_option maxHeartbeats 4000000 in
set_option maxRecDepth 100000 in
theorem lawc_bookingAt {p : Program} (l : Launch) (hfl : l.stackTraces = false) {e : Env} {s : State} {m : MethodId} {below : List Frame} {meth : Method} {c : Code} {H : Heap} {locs : List Loc} {cells slots : Nat} {Q : State → Prop} {b L : Nat} {xs : Nat → Int32} {ls : Array Slot} {K : zz_G} {om i : Nat} {th : Int32} {vl : Int64} {vd : UInt64} {N : Nat → Nat → Nat} {G : Nat → Nat → Int32} {Ls : Nat → Int64} (C : lw_C p s m c b L xs) (hi : i + 3 ≤ L) (hzi : zi N) (hg : zgi N G) (hS : va_S (lw_A s) s.heap H locs) (hI : zv_I K s om th vl vd N G Ls N G Ls H) (hl : lv_has ls 9 [(5, .int (nI i)), (4, .ref (om + 15)), (3, .ref (om + 14)), (2, .ref (zv_ad om 0 0)), (1, .ref s.heap.size), (0, .ref b)]) (hc : cells + 10 ≤ room_1.cells) (hs : slots + 200 ≤ room_1.slots)
    (kk : ∀ (H1 : Heap) (locs1 : List Loc) (ls1 : Array Slot), va_S (lw_A s) s.heap H1 locs1 → lw_V K s om H1 → lv_has ls1 9 [(5, .int (nI i)), (4, .ref (om + 15)), (3, .ref (om + 14)), (2, .ref (zv_ad om 0 0)), (1, .ref s.heap.size), (0, .ref b)] → W p l e room_1 s m #[Value.ref b] below meth c H1 locs1 (cells + 10) (slots + 200) Q (F0 m 1502 ls1 [])) : W p l e room_1 s m #[Value.ref b] below meth c H locs cells slots Q (F0 m 565 ls []) := by
  obtain ⟨hx, hb, hml, hown, hts, hXX, hbl, hL⟩ := id C
  have hom := hI.1
  refine lv_aload_n hx hb dL_law_565 rfl (lv_at hl 4 rfl) ?_
  refine lv_aload_n hx hb dL_law_566 rfl (lv_at hl 5 rfl) ?_
  refine lv_iload hx hb dL_law_567 (lv_at hl 0 rfl) ?_
  refine zz_con 1 hx hb dL_law_569 (by decide) ?_
  refine zz_add hx hb dL_law_570 ?_
  refine lw_sld C hS (j := i + 1) (by omega) dL_law_571 ?_
  refine lv_aload_n hx hb dL_law_572 rfl (lv_at hl 2 rfl) ?_
  refine zz_after (A := lw_A s) (pc := 573) rfl (zz_runSH (As := [.ref s.heap.size, .int (xs (i + 1)), .ref (om + 14)]) (rest := []) hx hb hml hown hts (c_L_bookingAt l hfl (K := K) (A := lw_L s om (om + 14)) (Ax := lw_X s om) (ox := s.heap.size) (ol := om + 14) (v0 := vl) (N := N) (G := G) (L := Ls) hzi (xs (i + 1)) (fun q h => Or.inl h) (Or.inr rfl) (fun z => z.2 ⟨by omega, by omega⟩)) zw_587 zw_588 zw_0 zw_589 zd_L_bookingAt ⟨Nat.le_of_ble_eq_true rfl, Nat.le_of_ble_eq_true rfl⟩ (hI.2.1.narrow (hI.la (Or.inl rfl))) (hI.nl _) ⟨hI.nx, hI.2.2.1, hI.2.2.2.2.1⟩ hl.1 (Nat.le_of_ble_eq_true rfl) dL_law_573 ⟨Nat.le_trans (Nat.add_le_add_left (Nat.le_of_ble_eq_true rfl) _) hc, Nat.le_trans (Nat.add_le_add_left (Nat.le_of_ble_eq_true rfl) _) hs⟩) hS (hI.la (Or.inl rfl)) (fun v H locs hq hF hS => ?_)
  obtain ⟨rfl, hX1, v1, hv1, hve⟩ := hq
  have hI := hI.onL hF hX1 hv1
  refine W.widen (k := cells + 10) (n := slots + 200) (Nat.add_le_add_left (Nat.le_of_ble_eq_true rfl) _) (Nat.add_le_add_left (Nat.le_of_ble_eq_true rfl) _) ?_
  refine W.eq (g2 := F0 m 576 ls [.int (nI ((zs_bookingAt N (xs (i + 1))).1))]) rfl ?_
  refine lv_istore (lv' := [(6, .int (nI ((zs_bookingAt N (xs (i + 1))).1))), (5, .int (nI i)), (4, .ref (om + 15)), (3, .ref (om + 14)), (2, .ref (zv_ad om 0 0)), (1, .ref s.heap.size), (0, .ref b)]) hx hb dL_law_576 hl (Nat.le_of_ble_eq_true rfl) rfl (fun ls hl => ?_)
  refine lv_aload_n hx hb dL_law_578 rfl (lv_at hl 4 rfl) ?_
  refine lv_aload_n hx hb dL_law_579 rfl (lv_at hl 6 rfl) ?_
  refine lv_iload hx hb dL_law_580 (lv_at hl 1 rfl) ?_
  refine zz_con 1 hx hb dL_law_582 (by decide) ?_
  refine zz_add hx hb dL_law_583 ?_
  refine lw_sld C hS (j := i + 1) (by omega) dL_law_584 ?_
  refine zz_after (A := lw_A s) (pc := 585) rfl (zz_runV (ci := 6) (q0 := (RX3, TX3, 22)) (b := zv_ad om 0 0) (As := [.int (xs (i + 1))]) (rest := []) hx hb hml hown hts (c_X3_bookingAt l (K := K) (A := lw_M om H) (ad := zv_ad om) (th := th) (N := N) (G := G) (L := Ls) hzi.q (xs (i + 1))) zw_935 zw_936 zw_937 zw_5 zw_938 zd_X3_bookingAt ⟨Nat.le_of_ble_eq_true rfl, Nat.le_of_ble_eq_true rfl⟩ (hI.2.1.narrow hI.ma) (fun q h => Or.inr h) (zm_ob hI.2.2.2.1).1 rfl rfl hI.2.2.2.1.wide hl.1 (Nat.le_of_ble_eq_true rfl) dL_law_585 ⟨hc, hs⟩) hS hI.ma (fun v H locs hq hF hS => ?_)
  obtain ⟨rfl, hM⟩ := hq
  have hI := hI.onM hF (zv_M.slim hM)
  refine W.eq (g2 := F0 m 588 ls [.int ((zs_bookingAt N (xs (i + 1))).2)]) rfl ?_
  refine lv_istore (lv' := [(7, .int ((zs_bookingAt N (xs (i + 1))).2)), (6, .int (nI ((zs_bookingAt N (xs (i + 1))).1))), (5, .int (nI i)), (4, .ref (om + 15)), (3, .ref (om + 14)), (2, .ref (zv_ad om 0 0)), (1, .ref s.heap.size), (0, .ref b)]) hx hb dL_law_588 hl (Nat.le_of_ble_eq_true rfl) rfl (fun ls hl => ?_)
  refine lv_aload_n hx hb dL_law_590 rfl (lv_at hl 5 rfl) ?_
  refine zz_after (A := lw_A s) (pc := 591) rfl (zz_runV (ci := 6) (q0 := (RX3, TX3, 22)) (b := zv_ad om 0 0) (As := []) (rest := []) hx hb hml hown hts (c_X3_thrown l (K := K) (A := lw_M om H) (ad := zv_ad om) (th := nI ((zs_bookingAt N (xs (i + 1))).1))) zw_876 zw_877 zw_878 zw_5 zw_879 zd_X3_thrown ⟨Nat.le_of_ble_eq_true rfl, Nat.le_of_ble_eq_true rfl⟩ (hI.2.1.narrow hI.ma) (fun q h => Or.inr h) (zm_ob hI.2.2.2.1).1 rfl rfl hI.2.2.2.1.wide hl.1 (Nat.le_of_ble_eq_true rfl) dL_law_591 ⟨hc, hs⟩) hS (fun _ z => z.elim) (fun v H locs hq hF hS => ?_)
  obtain rfl := hq
  have hI := hI.ro hF
  refine W.eq (g2 := F0 m 594 ls [.int (nI ((zs_bookingAt N (xs (i + 1))).1))]) rfl ?_
  refine lv_iload hx hb dL_law_594 (lv_at hl 1 rfl) ?_
  refine lv_icmp_eq (tgt := 601) hx hb dL_law_596 (by decide) (fun _ => ?_) (fun h9 => absurd rfl h9)
  refine lv_iload hx hb dL_law_601 (lv_at hl 1 rfl) ?_
  refine lv_if_ne (tgt := 618) hx hb dL_law_603 (by decide) (fun h9 => ?_) (fun h9 => ?_)
  · skip
    refine lv_goto (tgt := 1502) hx hb dL_law_618 (by decide) ?_
    exact kk _ _ _ hS ⟨_, _, _, _, _, _, hzi, hg, hI⟩ (lv_sub hl [2, 3, 4, 5, 6, 7] rfl)
  · skip
    have e9 := hve h9
    obtain ⟨f9, hat9, hf9⟩ := hI.2.2.2.2.1
    refine lv_aload_n hx hb dL_law_606 rfl (lv_at hl 4 rfl) ?_
    refine zz_con 0 hx hb dL_law_607 (by decide) ?_
    refine zz_lald (y := v1) hx hb hI.2.1.K hat9 (vp_in_nI (by decide) (by decide)) dL_law_608 (by rw [nI_clamp (by decide)]; exact hf9) ?_
    rw [e9]
    refine lv_iload hx hb dL_law_609 (lv_at hl 0 rfl) ?_
    refine lv_i2l hx hb dL_law_611 rfl ?_
    refine W.lcmp hx hb dL_law_612 ?_
    rw [lg_cmp_self]
    refine lv_if_eq (tgt := 618) hx hb dL_law_613 (by decide) (fun _ => ?_) (fun h8 => absurd rfl h8)
    refine lv_goto (tgt := 1502) hx hb dL_law_618 (by decide) ?_
    exact kk _ _ _ hS ⟨_, _, _, _, _, _, hzi, hg, hI⟩ (lv_sub hl [2, 3, 4, 5, 6, 7] rfl)

set_option maxHeartbeats 4000000 in
set_option maxRecDepth 100000 in
theorem lawc_lossOf {p : Program} (l : Launch) (hfl : l.stackTraces = false) {e : Env} {s : State} {m : MethodId} {below : List Frame} {meth : Method} {c : Code} {H : Heap} {locs : List Loc} {cells slots : Nat} {Q : State → Prop} {b L : Nat} {xs : Nat → Int32} {ls : Array Slot} {K : zz_G} {om i : Nat} {th : Int32} {vl : Int64} {vd : UInt64} {N : Nat → Nat → Nat} {G : Nat → Nat → Int32} {Ls : Nat → Int64} (C : lw_C p s m c b L xs) (hi : i + 3 ≤ L) (hzi : zi N) (hg : zgi N G) (hS : va_S (lw_A s) s.heap H locs) (hI : zv_I K s om th vl vd N G Ls N G Ls H) (hl : lv_has ls 9 [(5, .int (nI i)), (4, .ref (om + 15)), (3, .ref (om + 14)), (2, .ref (zv_ad om 0 0)), (1, .ref s.heap.size), (0, .ref b)]) (hc : cells + 10 ≤ room_1.cells) (hs : slots + 200 ≤ room_1.slots)
    (kk : ∀ (H1 : Heap) (locs1 : List Loc) (ls1 : Array Slot), va_S (lw_A s) s.heap H1 locs1 → lw_V K s om H1 → lv_has ls1 9 [(5, .int (nI i)), (4, .ref (om + 15)), (3, .ref (om + 14)), (2, .ref (zv_ad om 0 0)), (1, .ref s.heap.size), (0, .ref b)] → W p l e room_1 s m #[Value.ref b] below meth c H1 locs1 (cells + 10) (slots + 200) Q (F0 m 1502 ls1 [])) : W p l e room_1 s m #[Value.ref b] below meth c H locs cells slots Q (F0 m 660 ls []) := by
  obtain ⟨hx, hb, hml, hown, hts, hXX, hbl, hL⟩ := id C
  have hom := hI.1
  refine lv_aload_n hx hb dL_law_660 rfl (lv_at hl 4 rfl) ?_
  refine lv_aload_n hx hb dL_law_661 rfl (lv_at hl 5 rfl) ?_
  refine lv_iload hx hb dL_law_662 (lv_at hl 0 rfl) ?_
  refine zz_con 1 hx hb dL_law_664 (by decide) ?_
  refine zz_add hx hb dL_law_665 ?_
  refine lw_sld C hS (j := i + 1) (by omega) dL_law_666 ?_
  refine lv_aload_n hx hb dL_law_667 rfl (lv_at hl 2 rfl) ?_
  refine zz_after (A := lw_A s) (pc := 668) rfl (zz_runSH (As := [.ref s.heap.size, .int (xs (i + 1)), .ref (om + 14)]) (rest := []) hx hb hml hown hts (c_L_lossOf l hfl (K := K) (A := lw_L s om (om + 14)) (Ax := lw_X s om) (ox := s.heap.size) (ol := om + 14) (v0 := vl) (N := N) (G := G) (L := Ls) hzi (xs (i + 1)) (fun q h => Or.inl h) (Or.inr rfl) (fun z => z.2 ⟨by omega, by omega⟩)) zw_595 zw_596 zw_0 zw_597 zd_L_lossOf ⟨Nat.le_of_ble_eq_true rfl, Nat.le_of_ble_eq_true rfl⟩ (hI.2.1.narrow (hI.la (Or.inl rfl))) (hI.nl _) ⟨hI.nx, hI.2.2.1, hI.2.2.2.2.1⟩ hl.1 (Nat.le_of_ble_eq_true rfl) dL_law_668 ⟨Nat.le_trans (Nat.add_le_add_left (Nat.le_of_ble_eq_true rfl) _) hc, Nat.le_trans (Nat.add_le_add_left (Nat.le_of_ble_eq_true rfl) _) hs⟩) hS (hI.la (Or.inl rfl)) (fun v H locs hq hF hS => ?_)
  obtain ⟨rfl, hX1, v1, hv1, hve⟩ := hq
  have hI := hI.onL hF hX1 hv1
  refine W.widen (k := cells + 10) (n := slots + 200) (Nat.add_le_add_left (Nat.le_of_ble_eq_true rfl) _) (Nat.add_le_add_left (Nat.le_of_ble_eq_true rfl) _) ?_
  refine W.eq (g2 := F0 m 671 ls [.int (nI ((zs_lossOf N (xs (i + 1))).1))]) rfl ?_
  refine lv_istore (lv' := [(6, .int (nI ((zs_lossOf N (xs (i + 1))).1))), (5, .int (nI i)), (4, .ref (om + 15)), (3, .ref (om + 14)), (2, .ref (zv_ad om 0 0)), (1, .ref s.heap.size), (0, .ref b)]) hx hb dL_law_671 hl (Nat.le_of_ble_eq_true rfl) rfl (fun ls hl => ?_)
  refine lv_aload_n hx hb dL_law_673 rfl (lv_at hl 4 rfl) ?_
  refine lv_aload_n hx hb dL_law_674 rfl (lv_at hl 6 rfl) ?_
  refine lv_iload hx hb dL_law_675 (lv_at hl 1 rfl) ?_
  refine zz_con 1 hx hb dL_law_677 (by decide) ?_
  refine zz_add hx hb dL_law_678 ?_
  refine lw_sld C hS (j := i + 1) (by omega) dL_law_679 ?_
  refine zz_after (A := lw_A s) (pc := 680) rfl (zz_runV (ci := 6) (q0 := (RX3, TX3, 22)) (b := zv_ad om 0 0) (As := [.int (xs (i + 1))]) (rest := []) hx hb hml hown hts (c_X3_lossOf l (K := K) (A := lw_M om H) (ad := zv_ad om) (th := th) (N := N) (G := G) (L := Ls) hzi.q (xs (i + 1))) zw_966 zw_967 zw_968 zw_5 zw_969 zd_X3_lossOf ⟨Nat.le_of_ble_eq_true rfl, Nat.le_of_ble_eq_true rfl⟩ (hI.2.1.narrow hI.ma) (fun q h => Or.inr h) (zm_ob hI.2.2.2.1).1 rfl rfl hI.2.2.2.1.wide hl.1 (Nat.le_of_ble_eq_true rfl) dL_law_680 ⟨hc, hs⟩) hS hI.ma (fun v H locs hq hF hS => ?_)
  obtain ⟨rfl, hM⟩ := hq
  have hI := hI.onM hF (zv_M.slim hM)
  refine W.eq (g2 := F0 m 683 ls [.int ((zs_lossOf N (xs (i + 1))).2)]) rfl ?_
  refine lv_istore (lv' := [(7, .int ((zs_lossOf N (xs (i + 1))).2)), (6, .int (nI ((zs_lossOf N (xs (i + 1))).1))), (5, .int (nI i)), (4, .ref (om + 15)), (3, .ref (om + 14)), (2, .ref (zv_ad om 0 0)), (1, .ref s.heap.size), (0, .ref b)]) hx hb dL_law_683 hl (Nat.le_of_ble_eq_true rfl) rfl (fun ls hl => ?_)
  refine lv_aload_n hx hb dL_law_685 rfl (lv_at hl 5 rfl) ?_
  refine zz_after (A := lw_A s) (pc := 686) rfl (zz_runV (ci := 6) (q0 := (RX3, TX3, 22)) (b := zv_ad om 0 0) (As := []) (rest := []) hx hb hml hown hts (c_X3_thrown l (K := K) (A := lw_M om H) (ad := zv_ad om) (th := nI ((zs_lossOf N (xs (i + 1))).1))) zw_876 zw_877 zw_878 zw_5 zw_879 zd_X3_thrown ⟨Nat.le_of_ble_eq_true rfl, Nat.le_of_ble_eq_true rfl⟩ (hI.2.1.narrow hI.ma) (fun q h => Or.inr h) (zm_ob hI.2.2.2.1).1 rfl rfl hI.2.2.2.1.wide hl.1 (Nat.le_of_ble_eq_true rfl) dL_law_686 ⟨hc, hs⟩) hS (fun _ z => z.elim) (fun v H locs hq hF hS => ?_)
  obtain rfl := hq
  have hI := hI.ro hF
  refine W.eq (g2 := F0 m 689 ls [.int (nI ((zs_lossOf N (xs (i + 1))).1))]) rfl ?_
  refine lv_iload hx hb dL_law_689 (lv_at hl 1 rfl) ?_
  refine lv_icmp_eq (tgt := 696) hx hb dL_law_691 (by decide) (fun _ => ?_) (fun h9 => absurd rfl h9)
  refine lv_iload hx hb dL_law_696 (lv_at hl 1 rfl) ?_
  refine lv_if_ne (tgt := 713) hx hb dL_law_698 (by decide) (fun h9 => ?_) (fun h9 => ?_)
  · skip
    refine lv_goto (tgt := 1502) hx hb dL_law_713 (by decide) ?_
    exact kk _ _ _ hS ⟨_, _, _, _, _, _, hzi, hg, hI⟩ (lv_sub hl [2, 3, 4, 5, 6, 7] rfl)
  · skip
    have e9 := hve h9
    obtain ⟨f9, hat9, hf9⟩ := hI.2.2.2.2.1
    refine lv_aload_n hx hb dL_law_701 rfl (lv_at hl 4 rfl) ?_
    refine zz_con 0 hx hb dL_law_702 (by decide) ?_
    refine zz_lald (y := v1) hx hb hI.2.1.K hat9 (vp_in_nI (by decide) (by decide)) dL_law_703 (by rw [nI_clamp (by decide)]; exact hf9) ?_
    rw [e9]
    refine lv_iload hx hb dL_law_704 (lv_at hl 0 rfl) ?_
    refine lv_i2l hx hb dL_law_706 rfl ?_
    refine W.lcmp hx hb dL_law_707 ?_
    rw [lg_cmp_self]
    refine lv_if_eq (tgt := 713) hx hb dL_law_708 (by decide) (fun _ => ?_) (fun h8 => absurd rfl h8)
    refine lv_goto (tgt := 1502) hx hb dL_law_713 (by decide) ?_
    exact kk _ _ _ hS ⟨_, _, _, _, _, _, hzi, hg, hI⟩ (lv_sub hl [2, 3, 4, 5, 6, 7] rfl)

set_option maxHeartbeats 4000000 in
set_option maxRecDepth 100000 in
theorem lawc_nextDay {p : Program} (l : Launch) (hfl : l.stackTraces = false) {e : Env} {s : State} {m : MethodId} {below : List Frame} {meth : Method} {c : Code} {H : Heap} {locs : List Loc} {cells slots : Nat} {Q : State → Prop} {b L : Nat} {xs : Nat → Int32} {ls : Array Slot} {K : zz_G} {om i : Nat} {th : Int32} {vl : Int64} {vd : UInt64} {N : Nat → Nat → Nat} {G : Nat → Nat → Int32} {Ls : Nat → Int64} (C : lw_C p s m c b L xs) (hi : i + 3 ≤ L) (hzi : zi N) (hg : zgi N G) (hS : va_S (lw_A s) s.heap H locs) (hI : zv_I K s om th vl vd N G Ls N G Ls H) (hl : lv_has ls 9 [(5, .int (nI i)), (4, .ref (om + 15)), (3, .ref (om + 14)), (2, .ref (zv_ad om 0 0)), (1, .ref s.heap.size), (0, .ref b)]) (hc : cells + 10 ≤ room_1.cells) (hs : slots + 200 ≤ room_1.slots)
    (kk : ∀ (H1 : Heap) (locs1 : List Loc) (ls1 : Array Slot), va_S (lw_A s) s.heap H1 locs1 → lw_V K s om H1 → lv_has ls1 9 [(5, .int (nI i)), (4, .ref (om + 15)), (3, .ref (om + 14)), (2, .ref (zv_ad om 0 0)), (1, .ref s.heap.size), (0, .ref b)] → W p l e room_1 s m #[Value.ref b] below meth c H1 locs1 (cells + 10) (slots + 200) Q (F0 m 1502 ls1 [])) : W p l e room_1 s m #[Value.ref b] below meth c H locs cells slots Q (F0 m 716 ls []) := by
  obtain ⟨hx, hb, hml, hown, hts, hXX, hbl, hL⟩ := id C
  have hom := hI.1
  refine lv_aload_n hx hb dL_law_716 rfl (lv_at hl 4 rfl) ?_
  refine lv_aload_n hx hb dL_law_717 rfl (lv_at hl 2 rfl) ?_
  refine zz_after (A := lw_A s) (pc := 718) rfl (zz_runSH (As := [.ref s.heap.size, .ref (om + 14)]) (rest := []) hx hb hml hown hts (c_L_nextDay l hfl (K := K) (A := lw_L s om (om + 14)) (Ax := lw_X s om) (ox := s.heap.size) (ol := om + 14) (v0 := vl) (N := N) (G := G) (L := Ls) hzi (fun q h => Or.inl h) (Or.inr rfl) (fun z => z.2 ⟨by omega, by omega⟩)) zw_604 zw_605 zw_0 zw_606 zd_L_nextDay ⟨Nat.le_of_ble_eq_true rfl, Nat.le_of_ble_eq_true rfl⟩ (hI.2.1.narrow (hI.la (Or.inl rfl))) (hI.nl _) ⟨hI.nx, hI.2.2.1, hI.2.2.2.2.1⟩ hl.1 (Nat.le_of_ble_eq_true rfl) dL_law_718 ⟨Nat.le_trans (Nat.add_le_add_left (Nat.le_of_ble_eq_true rfl) _) hc, Nat.le_trans (Nat.add_le_add_left (Nat.le_of_ble_eq_true rfl) _) hs⟩) hS (hI.la (Or.inl rfl)) (fun v H locs hq hF hS => ?_)
  obtain ⟨rfl, hX1, v1, hv1, hve⟩ := hq
  have hI := hI.onL hF hX1 hv1
  refine W.widen (k := cells + 10) (n := slots + 200) (Nat.add_le_add_left (Nat.le_of_ble_eq_true rfl) _) (Nat.add_le_add_left (Nat.le_of_ble_eq_true rfl) _) ?_
  refine W.eq (g2 := F0 m 721 ls [.int (nI ((zs_day N Ls).1))]) rfl ?_
  refine lv_istore (lv' := [(6, .int (nI ((zs_day N Ls).1))), (5, .int (nI i)), (4, .ref (om + 15)), (3, .ref (om + 14)), (2, .ref (zv_ad om 0 0)), (1, .ref s.heap.size), (0, .ref b)]) hx hb dL_law_721 hl (Nat.le_of_ble_eq_true rfl) rfl (fun ls hl => ?_)
  refine lv_aload_n hx hb dL_law_723 rfl (lv_at hl 4 rfl) ?_
  refine zz_after (A := lw_A s) (pc := 724) rfl (zz_runV (ci := 6) (q0 := (RX3, TX3, 22)) (b := zv_ad om 0 0) (As := []) (rest := []) hx hb hml hown hts (c_X3_nextDay l (K := K) (A := lw_M om H) (ad := zv_ad om) (th := th) (N := N) (G := G) (L := Ls) hzi.q hzi.nn) zw_970 zw_971 zw_972 zw_5 zw_973 zd_X3_nextDay ⟨Nat.le_of_ble_eq_true rfl, Nat.le_of_ble_eq_true rfl⟩ (hI.2.1.narrow hI.ma) (fun q h => Or.inr h) (zm_ob hI.2.2.2.1).1 rfl rfl hI.2.2.2.1.wide hl.1 (Nat.le_of_ble_eq_true rfl) dL_law_724 ⟨hc, hs⟩) hS hI.ma (fun v H locs hq hF hS => ?_)
  obtain ⟨rfl, hM⟩ := hq
  have hI := hI.onM hF (zv_M.slim hM)
  refine W.eq (g2 := F0 m 727 ls [.int ((zs_day N Ls).2.1)]) rfl ?_
  refine lv_istore (lv' := [(7, .int ((zs_day N Ls).2.1)), (6, .int (nI ((zs_day N Ls).1))), (5, .int (nI i)), (4, .ref (om + 15)), (3, .ref (om + 14)), (2, .ref (zv_ad om 0 0)), (1, .ref s.heap.size), (0, .ref b)]) hx hb dL_law_727 hl (Nat.le_of_ble_eq_true rfl) rfl (fun ls hl => ?_)
  refine lv_aload_n hx hb dL_law_729 rfl (lv_at hl 5 rfl) ?_
  refine zz_after (A := lw_A s) (pc := 730) rfl (zz_runV (ci := 6) (q0 := (RX3, TX3, 22)) (b := zv_ad om 0 0) (As := []) (rest := []) hx hb hml hown hts (c_X3_thrown l (K := K) (A := lw_M om H) (ad := zv_ad om) (th := nI ((zs_day N Ls).1))) zw_876 zw_877 zw_878 zw_5 zw_879 zd_X3_thrown ⟨Nat.le_of_ble_eq_true rfl, Nat.le_of_ble_eq_true rfl⟩ (hI.2.1.narrow hI.ma) (fun q h => Or.inr h) (zm_ob hI.2.2.2.1).1 rfl rfl hI.2.2.2.1.wide hl.1 (Nat.le_of_ble_eq_true rfl) dL_law_730 ⟨hc, hs⟩) hS (fun _ z => z.elim) (fun v H locs hq hF hS => ?_)
  obtain rfl := hq
  have hI := hI.ro hF
  refine W.eq (g2 := F0 m 733 ls [.int (nI ((zs_day N Ls).1))]) rfl ?_
  refine lv_iload hx hb dL_law_733 (lv_at hl 1 rfl) ?_
  refine lv_icmp_eq (tgt := 740) hx hb dL_law_735 (by decide) (fun _ => ?_) (fun h9 => absurd rfl h9)
  refine lv_iload hx hb dL_law_740 (lv_at hl 1 rfl) ?_
  refine lv_if_ne (tgt := 757) hx hb dL_law_742 (by decide) (fun h9 => ?_) (fun h9 => ?_)
  · skip
    refine lv_goto (tgt := 1502) hx hb dL_law_757 (by decide) ?_
    exact kk _ _ _ hS ⟨_, _, _, _, _, _, ki_day hzi, zgi_co ki_day0 hg, hI⟩ (lv_sub hl [2, 3, 4, 5, 6, 7] rfl)
  · skip
    have e9 := hve h9
    obtain ⟨f9, hat9, hf9⟩ := hI.2.2.2.2.1
    refine lv_aload_n hx hb dL_law_745 rfl (lv_at hl 4 rfl) ?_
    refine zz_con 0 hx hb dL_law_746 (by decide) ?_
    refine zz_lald (y := v1) hx hb hI.2.1.K hat9 (vp_in_nI (by decide) (by decide)) dL_law_747 (by rw [nI_clamp (by decide)]; exact hf9) ?_
    rw [e9]
    refine lv_iload hx hb dL_law_748 (lv_at hl 0 rfl) ?_
    refine lv_i2l hx hb dL_law_750 rfl ?_
    refine W.lcmp hx hb dL_law_751 ?_
    rw [lg_cmp_self]
    refine lv_if_eq (tgt := 757) hx hb dL_law_752 (by decide) (fun _ => ?_) (fun h8 => absurd rfl h8)
    refine lv_goto (tgt := 1502) hx hb dL_law_757 (by decide) ?_
    exact kk _ _ _ hS ⟨_, _, _, _, _, _, ki_day hzi, zgi_co ki_day0 hg, hI⟩ (lv_sub hl [2, 3, 4, 5, 6, 7] rfl)

set_option maxHeartbeats 4000000 in
set_option maxRecDepth 100000 in
theorem lawc_comeIn {p : Program} (l : Launch) (hfl : l.stackTraces = false) {e : Env} {s : State} {m : MethodId} {below : List Frame} {meth : Method} {c : Code} {H : Heap} {locs : List Loc} {cells slots : Nat} {Q : State → Prop} {b L : Nat} {xs : Nat → Int32} {ls : Array Slot} {K : zz_G} {om i : Nat} {th : Int32} {vl : Int64} {vd : UInt64} {N : Nat → Nat → Nat} {G : Nat → Nat → Int32} {Ls : Nat → Int64} (C : lw_C p s m c b L xs) (hi : i + 3 ≤ L) (hzi : zi N) (hg : zgi N G) (hS : va_S (lw_A s) s.heap H locs) (hI : zv_I K s om th vl vd N G Ls N G Ls H) (hl : lv_has ls 9 [(5, .int (nI i)), (4, .ref (om + 15)), (3, .ref (om + 14)), (2, .ref (zv_ad om 0 0)), (1, .ref s.heap.size), (0, .ref b)]) (hc : cells + 10 ≤ room_1.cells) (hs : slots + 200 ≤ room_1.slots)
    (kk : ∀ (H1 : Heap) (locs1 : List Loc) (ls1 : Array Slot), va_S (lw_A s) s.heap H1 locs1 → lw_V K s om H1 → lv_has ls1 9 [(5, .int (nI i)), (4, .ref (om + 15)), (3, .ref (om + 14)), (2, .ref (zv_ad om 0 0)), (1, .ref s.heap.size), (0, .ref b)] → W p l e room_1 s m #[Value.ref b] below meth c H1 locs1 (cells + 10) (slots + 200) Q (F0 m 1502 ls1 [])) : W p l e room_1 s m #[Value.ref b] below meth c H locs cells slots Q (F0 m 773 ls []) := by
  obtain ⟨hx, hb, hml, hown, hts, hXX, hbl, hL⟩ := id C
  have hom := hI.1
  refine lv_aload_n hx hb dL_law_773 rfl (lv_at hl 4 rfl) ?_
  refine lv_aload_n hx hb dL_law_774 rfl (lv_at hl 5 rfl) ?_
  refine lv_iload hx hb dL_law_775 (lv_at hl 0 rfl) ?_
  refine zz_con 1 hx hb dL_law_777 (by decide) ?_
  refine zz_add hx hb dL_law_778 ?_
  refine lw_sld C hS (j := i + 1) (by omega) dL_law_779 ?_
  refine lv_aload_n hx hb dL_law_780 rfl (lv_at hl 2 rfl) ?_
  refine zz_after (A := lw_A s) (pc := 781) rfl (zz_runSH (As := [.ref s.heap.size, .int (xs (i + 1)), .ref (om + 14)]) (rest := []) hx hb hml hown hts (c_L_comeIn l hfl (K := K) (A := lw_L s om (om + 14)) (Ax := lw_X s om) (ox := s.heap.size) (ol := om + 14) (v0 := vl) (N := N) (G := G) (L := Ls) hzi (xs (i + 1)) (fun q h => Or.inl h) (Or.inr rfl) (fun z => z.2 ⟨by omega, by omega⟩)) zw_674 zw_675 zw_0 zw_676 zd_L_comeIn ⟨Nat.le_of_ble_eq_true rfl, Nat.le_of_ble_eq_true rfl⟩ (hI.2.1.narrow (hI.la (Or.inl rfl))) (hI.nl _) ⟨hI.nx, hI.2.2.1, hI.2.2.2.2.1⟩ hl.1 (Nat.le_of_ble_eq_true rfl) dL_law_781 ⟨Nat.le_trans (Nat.add_le_add_left (Nat.le_of_ble_eq_true rfl) _) hc, Nat.le_trans (Nat.add_le_add_left (Nat.le_of_ble_eq_true rfl) _) hs⟩) hS (hI.la (Or.inl rfl)) (fun v H locs hq hF hS => ?_)
  obtain ⟨rfl, hX1, v1, hv1, hve⟩ := hq
  have hI := hI.onL hF hX1 hv1
  refine W.widen (k := cells + 10) (n := slots + 200) (Nat.add_le_add_left (Nat.le_of_ble_eq_true rfl) _) (Nat.add_le_add_left (Nat.le_of_ble_eq_true rfl) _) ?_
  refine W.eq (g2 := F0 m 784 ls [.int (nI ((zs_comeIn N (xs (i + 1))).1))]) rfl ?_
  refine lv_istore (lv' := [(6, .int (nI ((zs_comeIn N (xs (i + 1))).1))), (5, .int (nI i)), (4, .ref (om + 15)), (3, .ref (om + 14)), (2, .ref (zv_ad om 0 0)), (1, .ref s.heap.size), (0, .ref b)]) hx hb dL_law_784 hl (Nat.le_of_ble_eq_true rfl) rfl (fun ls hl => ?_)
  refine lv_aload_n hx hb dL_law_786 rfl (lv_at hl 4 rfl) ?_
  refine lv_aload_n hx hb dL_law_787 rfl (lv_at hl 6 rfl) ?_
  refine lv_iload hx hb dL_law_788 (lv_at hl 1 rfl) ?_
  refine zz_con 1 hx hb dL_law_790 (by decide) ?_
  refine zz_add hx hb dL_law_791 ?_
  refine lw_sld C hS (j := i + 1) (by omega) dL_law_792 ?_
  refine zz_after (A := lw_A s) (pc := 793) rfl (zz_runV (ci := 6) (q0 := (RX3, TX3, 22)) (b := zv_ad om 0 0) (As := [.int (xs (i + 1))]) (rest := []) hx hb hml hown hts (c_X3_comeIn l (K := K) (A := lw_M om H) (ad := zv_ad om) (th := th) (N := N) (G := G) (L := Ls) hzi.q (xs (i + 1))) zw_1000 zw_1001 zw_1002 zw_5 zw_1003 zd_X3_comeIn ⟨Nat.le_of_ble_eq_true rfl, Nat.le_of_ble_eq_true rfl⟩ (hI.2.1.narrow hI.ma) (fun q h => Or.inr h) (zm_ob hI.2.2.2.1).1 rfl rfl hI.2.2.2.1.wide hl.1 (Nat.le_of_ble_eq_true rfl) dL_law_793 ⟨hc, hs⟩) hS hI.ma (fun v H locs hq hF hS => ?_)
  obtain ⟨rfl, hM⟩ := hq
  have hI := hI.onM hF (zv_M.slim hM)
  refine W.eq (g2 := F0 m 796 ls [.int ((zs_comeIn N (xs (i + 1))).2.1)]) rfl ?_
  refine lv_istore (lv' := [(7, .int ((zs_comeIn N (xs (i + 1))).2.1)), (6, .int (nI ((zs_comeIn N (xs (i + 1))).1))), (5, .int (nI i)), (4, .ref (om + 15)), (3, .ref (om + 14)), (2, .ref (zv_ad om 0 0)), (1, .ref s.heap.size), (0, .ref b)]) hx hb dL_law_796 hl (Nat.le_of_ble_eq_true rfl) rfl (fun ls hl => ?_)
  refine lv_aload_n hx hb dL_law_798 rfl (lv_at hl 5 rfl) ?_
  refine zz_after (A := lw_A s) (pc := 799) rfl (zz_runV (ci := 6) (q0 := (RX3, TX3, 22)) (b := zv_ad om 0 0) (As := []) (rest := []) hx hb hml hown hts (c_X3_thrown l (K := K) (A := lw_M om H) (ad := zv_ad om) (th := nI ((zs_comeIn N (xs (i + 1))).1))) zw_876 zw_877 zw_878 zw_5 zw_879 zd_X3_thrown ⟨Nat.le_of_ble_eq_true rfl, Nat.le_of_ble_eq_true rfl⟩ (hI.2.1.narrow hI.ma) (fun q h => Or.inr h) (zm_ob hI.2.2.2.1).1 rfl rfl hI.2.2.2.1.wide hl.1 (Nat.le_of_ble_eq_true rfl) dL_law_799 ⟨hc, hs⟩) hS (fun _ z => z.elim) (fun v H locs hq hF hS => ?_)
  obtain rfl := hq
  have hI := hI.ro hF
  refine W.eq (g2 := F0 m 802 ls [.int (nI ((zs_comeIn N (xs (i + 1))).1))]) rfl ?_
  refine lv_iload hx hb dL_law_802 (lv_at hl 1 rfl) ?_
  refine lv_icmp_eq (tgt := 809) hx hb dL_law_804 (by decide) (fun _ => ?_) (fun h9 => absurd rfl h9)
  refine lv_iload hx hb dL_law_809 (lv_at hl 1 rfl) ?_
  refine lv_if_ne (tgt := 826) hx hb dL_law_811 (by decide) (fun h9 => ?_) (fun h9 => ?_)
  · skip
    refine lv_goto (tgt := 1502) hx hb dL_law_826 (by decide) ?_
    exact kk _ _ _ hS ⟨_, _, _, _, _, _, ki_comeIn hzi _, zgi_co kg_comeIn hg, hI⟩ (lv_sub hl [2, 3, 4, 5, 6, 7] rfl)
  · skip
    have e9 := hve h9
    obtain ⟨f9, hat9, hf9⟩ := hI.2.2.2.2.1
    refine lv_aload_n hx hb dL_law_814 rfl (lv_at hl 4 rfl) ?_
    refine zz_con 0 hx hb dL_law_815 (by decide) ?_
    refine zz_lald (y := v1) hx hb hI.2.1.K hat9 (vp_in_nI (by decide) (by decide)) dL_law_816 (by rw [nI_clamp (by decide)]; exact hf9) ?_
    rw [e9]
    refine lv_iload hx hb dL_law_817 (lv_at hl 0 rfl) ?_
    refine lv_i2l hx hb dL_law_819 rfl ?_
    refine W.lcmp hx hb dL_law_820 ?_
    rw [lg_cmp_self]
    refine lv_if_eq (tgt := 826) hx hb dL_law_821 (by decide) (fun _ => ?_) (fun h8 => absurd rfl h8)
    refine lv_goto (tgt := 1502) hx hb dL_law_826 (by decide) ?_
    exact kk _ _ _ hS ⟨_, _, _, _, _, _, ki_comeIn hzi _, zgi_co kg_comeIn hg, hI⟩ (lv_sub hl [2, 3, 4, 5, 6, 7] rfl)
