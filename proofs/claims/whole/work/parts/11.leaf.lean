/-! by program (gen.py): contracts of methods -/
theorem zd_X0_bit : yX0_bit.cls ≠ "java/lang/invoke/MethodHandle" ∧ yX0_bit.cls ≠ "java/lang/invoke/VarHandle" ∧ (parseMethodDescriptor yX0_bit.desc).map (fun d => d.parameters.length) = some 0 := by decide +kernel
set_option maxHeartbeats 4000000 in
set_option maxRecDepth 100000 in
theorem c_X0_bit (l : Launch) {K : zz_G} {A : Nat → Prop} {ad : Nat → Nat → Nat} {E : Nat → Nat → Int32} {cap : Nat → Nat} {N : Nat → Nat → Nat} {G : Nat → Nat → Int32} {L : Nat → Int64} (hI : zq N) {f : Nat} (hf : f < N 0 0) : zz_C l yX0_bit cX0_bit 1 (Option.some FieldType.int) ({ frames := 0, cells := 0, slots := 0, locals := 0 } : Room) K A [.ref (ad 3 f)] (fun H => zz_W K A ad (zx_c K ad E cap N G L) H) (fun v9 _ _ => v9 = some (.int (nI (2 ^ f)))) zz_nx zz_no := by
  refine zz_body (by decide +kernel) (Nat.le_of_ble_eq_true rfl) ?_
  intro p e s m below meth c ls hx hb hr hml hts hown hlocks hmn htab hE hA hP hl
  have hN := hE.N
  have hK := hE.K
  have hown : s.vm.findClass RX0 = some m.cls := hown
  have hl : lv_has ls 1 [(0, .ref (ad 3 f))] := hl
  have hZ : zz_Z K A s ad (zx_c K ad E cap N G L) s.heap := ⟨hE, hA, hP⟩
  have hS : va_S zz_no s.heap s.heap [] := va_S.rf
  obtain ⟨H, hH⟩ : ∃ z, z = s.heap := ⟨_, rfl⟩
  have hS0 : va_S zz_no s.heap H [] := by rw [hH]; exact hS
  rw [← hH] at hZ
  have hE0 := hE
  clear hS
  have hS := hS0
  have hB := hI.B
  have h00 := hI.f
  have h01 := hI.p
  have h02 := hI.b
  show W p l e _ s m _ below meth c s.heap [] 0 0 _ (F0 m 0 ls [])
  rw [← hH]
  refine zz_con 1 hx hb dX0_bit_0 (by decide) ?_
  refine lv_aload_n hx hb dX0_bit_1 rfl (lv_at hl 0 rfl) ?_
  refine zz_get (ci := 3) (C := RX0) (T := TX0) (N := 7) (v := .int (nI f)) hx hb hts hown hK (zx_fl hZ.W (f := f) hf).1 rfl zf_X0 0 (by decide) zw_333 (fun _ h9 => h9) rfl dX0_bit_2 ?_
  refine lv_ishl hx hb dX0_bit_5 ?_
  refine zz_iret hx hb hr hlocks hS (Nat.le_of_ble_eq_true rfl) (Nat.le_of_ble_eq_true rfl) dX0_bit_6 ?_
  first | rfl | (exact congrArg (fun z => some (Value.int z)) (zz_bit1 (by omega)); done) | (simp []; done) | (simp_all; done) | (split <;> first | rfl | omega | (simp_all; done); done)

set_option maxHeartbeats 4000000 in
set_option maxRecDepth 100000 in
theorem c_X0_isPartOf (l : Launch) {K : zz_G} {A : Nat → Prop} {ad : Nat → Nat → Nat} {E : Nat → Nat → Int32} {cap : Nat → Nat} {N : Nat → Nat → Nat} {G : Nat → Nat → Int32} {L : Nat → Int64} (hI : zq N) {f : Nat} (hf : f < N 0 0) {S : Nat} (hSb : S < 2 ^ 31) : zz_C l yX0_isPartOf cX0_isPartOf 2 (Option.some FieldType.boolean) ({ frames := 1, cells := 0, slots := 0, locals := 20 } : Room) K A [.ref (ad 3 f), .int (nI S)] (fun H => zz_W K A ad (zx_c K ad E cap N G L) H) (fun v9 _ _ => v9 = some (.int (zz_bo (S.testBit f = true)))) zz_nx zz_no := by
  refine zz_body (by decide +kernel) (Nat.le_of_ble_eq_true rfl) ?_
  intro p e s m below meth c ls hx hb hr hml hts hown hlocks hmn htab hE hA hP hl
  have hN := hE.N
  have hK := hE.K
  have hown : s.vm.findClass RX0 = some m.cls := hown
  have hl : lv_has ls 2 [(0, .ref (ad 3 f)), (1, .int (nI S))] := hl
  have hZ : zz_Z K A s ad (zx_c K ad E cap N G L) s.heap := ⟨hE, hA, hP⟩
  have hS : va_S zz_no s.heap s.heap [] := va_S.rf
  obtain ⟨H, hH⟩ : ∃ z, z = s.heap := ⟨_, rfl⟩
  have hS0 : va_S zz_no s.heap H [] := by rw [hH]; exact hS
  rw [← hH] at hZ
  have hE0 := hE
  clear hS
  have hS := hS0
  have hB := hI.B
  have h00 := hI.f
  have h01 := hI.p
  have h02 := hI.b
  show W p l e _ s m _ below meth c s.heap [] 0 0 _ (F0 m 0 ls [])
  rw [← hH]
  refine lv_iload_n hx hb dX0_isPartOf_0 rfl (lv_at hl 1 rfl) ?_
  refine lv_aload_n hx hb dX0_isPartOf_1 rfl (lv_at hl 0 rfl) ?_
  refine zz_after (pc := 2) rfl (zz_runV (ci := 3) (q0 := (RX0, TX0, 7)) (b := ad 3 f) (As := []) (rest := [.int (nI S)]) hx hb hml hown hts (c_X0_bit l (K := K) (A := A) (ad := ad) (E := E) (cap := cap) (N := N) (G := G) (L := L) hI hf) zw_169 zw_134 zw_135 zw_11 zw_136 zd_X0_bit ⟨Nat.le_of_ble_eq_true rfl, Nat.le_of_ble_eq_true rfl⟩ hZ.E hZ.A (zx_fl hZ.W (f := f) hf).1 rfl rfl hZ.W hl.1 (Nat.le_of_ble_eq_true rfl) dX0_isPartOf_2 ⟨Nat.le_of_ble_eq_true rfl, Nat.le_of_ble_eq_true rfl⟩) hS (fun _ h => h.elim) (fun v_3 H locs hq_1 hF_2 hS => ?_)
  refine W.widen (k := 0) (n := 0) (Nat.le_of_ble_eq_true rfl) (Nat.le_of_ble_eq_true rfl) ?_
  obtain rfl := hq_1
  have hZ := hZ.ro hF_2
  refine W.eq (g2 := F0 m 5 ls [.int (nI (2 ^ f)), .int (nI S)]) rfl ?_
  refine lv_iand hx hb dX0_isPartOf_5 ?_
  refine lv_if_eq (tgt := 13) hx hb dX0_isPartOf_6 (by decide) (fun c_4 => ?_) (fun c_4 => ?_)
  · skip
    have c9 := (zz_bit0 hSb).mp c_4
    refine zz_con 0 hx hb dX0_isPartOf_13 (by decide) ?_
    refine zz_zret hx hb hr hlocks hS (Nat.le_of_ble_eq_true rfl) (Nat.le_of_ble_eq_true rfl) dX0_isPartOf_14 (show nI 0 = 0 ∨ nI 0 = 1 by decide) ?_
    refine congrArg (fun z => some (Value.int z)) (zz_bo_f ?_).symm
    first | assumption | omega | (simp [c_4]; done) | (simp_all; done) | (split <;> first | rfl | omega | (simp_all; done); done)
  · skip
    have c9 : S.testBit f = true := by by_cases h : S.testBit f = true; exact h; exact absurd ((zz_bit0 hSb).mpr h) c_4
    refine zz_con 1 hx hb dX0_isPartOf_9 (by decide) ?_
    refine lv_goto (tgt := 14) hx hb dX0_isPartOf_10 (by decide) ?_
    refine zz_zret hx hb hr hlocks hS (Nat.le_of_ble_eq_true rfl) (Nat.le_of_ble_eq_true rfl) dX0_isPartOf_14 (show nI 1 = 0 ∨ nI 1 = 1 by decide) ?_
    refine congrArg (fun z => some (Value.int z)) (zz_bo_t ?_).symm
    first | assumption | omega | (simp [c_4]; done) | (simp_all; done) | (split <;> first | rfl | omega | (simp_all; done); done)

set_option maxHeartbeats 4000000 in
set_option maxRecDepth 100000 in
theorem c_X0_distanceTo (l : Launch) {K : zz_G} {A : Nat → Prop} {ad : Nat → Nat → Nat} {E : Nat → Nat → Int32} {cap : Nat → Nat} {N : Nat → Nat → Nat} {G : Nat → Nat → Int32} {L : Nat → Int64} (hI : zq N) {f : Nat} (hf : f < N 0 0) {f2 : Nat} (hf2 : f2 < N 0 0) : zz_C l yX0_distanceTo cX0_distanceTo 2 (Option.some FieldType.int) ({ frames := 1, cells := 0, slots := 0, locals := 24 } : Room) K A [.ref (ad 3 f), .ref (ad 3 f2)] (fun H => zz_W K A ad (zx_c K ad E cap N G L) H) (fun v9 _ _ => v9 = some (.int (nI (zd f f2)))) zz_nx zz_no := by
  refine zz_body (by decide +kernel) (Nat.le_of_ble_eq_true rfl) ?_
  intro p e s m below meth c ls hx hb hr hml hts hown hlocks hmn htab hE hA hP hl
  have hN := hE.N
  have hK := hE.K
  have hown : s.vm.findClass RX0 = some m.cls := hown
  have hl : lv_has ls 2 [(0, .ref (ad 3 f)), (1, .ref (ad 3 f2))] := hl
  have hZ : zz_Z K A s ad (zx_c K ad E cap N G L) s.heap := ⟨hE, hA, hP⟩
  have hS : va_S zz_no s.heap s.heap [] := va_S.rf
  obtain ⟨H, hH⟩ : ∃ z, z = s.heap := ⟨_, rfl⟩
  have hS0 : va_S zz_no s.heap H [] := by rw [hH]; exact hS
  rw [← hH] at hZ
  have hE0 := hE
  clear hS
  have hS := hS0
  have hB := hI.B
  have h00 := hI.f
  have h01 := hI.p
  have h02 := hI.b
  show W p l e _ s m _ below meth c s.heap [] 0 0 _ (F0 m 0 ls [])
  rw [← hH]
  refine lv_aload_n hx hb dX0_distanceTo_0 rfl (lv_at hl 0 rfl) ?_
  refine zz_get (ci := 3) (C := RX0) (T := TX0) (N := 7) (v := .int (nI f)) hx hb hts hown hK (zx_fl hZ.W (f := f) hf).1 rfl zf_X0 0 (by decide) zw_333 (fun _ h9 => h9) rfl dX0_distanceTo_1 ?_
  refine lv_aload_n hx hb dX0_distanceTo_4 rfl (lv_at hl 1 rfl) ?_
  refine zz_get (ci := 3) (C := RX0) (T := TX0) (N := 7) (v := .int (nI f2)) hx hb hts hown hK (zx_fl hZ.W (f := f2) hf2).1 rfl zf_X0 0 (by decide) zw_333 (fun _ h9 => h9) rfl dX0_distanceTo_5 ?_
  refine lv_isub hx hb dX0_distanceTo_8 ?_
  refine va_mabs hx hb (by rw [hml]; exact hl.1.symm) hown (hts _ zw_182) (hts _ zw_183) (hts _ zw_13) (hts _ zw_184) (Nat.le_of_ble_eq_true rfl) (Nat.le_of_ble_eq_true rfl) (Nat.le_of_ble_eq_true rfl) (Nat.le_of_ble_eq_true rfl) dX0_distanceTo_9 ?_
  rw [zd_abs (by omega) (by omega)]
  refine zz_iret hx hb hr hlocks hS (Nat.le_of_ble_eq_true rfl) (Nat.le_of_ble_eq_true rfl) dX0_distanceTo_12 ?_
  first | rfl | (simp []; done) | (simp_all; done) | (split <;> first | rfl | omega | (simp_all; done); done)

set_option maxHeartbeats 4000000 in
set_option maxRecDepth 100000 in
theorem c_X0_forgetKeys (l : Launch) {K : zz_G} {A : Nat → Prop} {ad : Nat → Nat → Nat} {E : Nat → Nat → Int32} {cap : Nat → Nat} {N : Nat → Nat → Nat} {G : Nat → Nat → Int32} {L : Nat → Int64} (hI : zq N) {f : Nat} (hf : f < N 0 0) : zz_C l yX0_forgetKeys cX0_forgetKeys 2 (Option.none : Option Jvm.ClassFile.FieldType) ({ frames := 0, cells := 0, slots := 0, locals := 0 } : Room) K A [.ref (ad 3 f)] (fun H => zz_W K A ad (zx_c K ad E cap N G L) H) (fun v9 _ H9 => v9 = none ∧ zz_W K A ad (zx_c K ad (zk_fo E f 13) cap N G L) H9) zz_nx A := by
  refine zz_body (by decide +kernel) (Nat.le_of_ble_eq_true rfl) ?_
  intro p e s m below meth c ls hx hb hr hml hts hown hlocks hmn htab hE hA hP hl
  have hN := hE.N
  have hK := hE.K
  have hown : s.vm.findClass RX0 = some m.cls := hown
  have hl : lv_has ls 2 [(0, .ref (ad 3 f))] := hl
  have hZ : zz_Z K A s ad (zx_c K ad E cap N G L) s.heap := ⟨hE, hA, hP⟩
  have hS : va_S zz_no s.heap s.heap [] := va_S.rf
  obtain ⟨H, hH⟩ : ∃ z, z = s.heap := ⟨_, rfl⟩
  have hS0 : va_S zz_no s.heap H [] := by rw [hH]; exact hS
  rw [← hH] at hZ
  have hE0 := hE
  clear hS
  have hS := hS0
  have hB := hI.B
  have h00 := hI.f
  have h01 := hI.p
  have h02 := hI.b
  show W p l e _ s m _ below meth c s.heap [] 0 0 _ (F0 m 0 ls [])
  rw [← hH]
  refine zz_con 0 hx hb dX0_forgetKeys_0 (by decide) ?_
  refine lv_istore_n (lv' := [(1, .int (nI 0)), (0, .ref (ad 3 f))]) hx hb dX0_forgetKeys_1 rfl hl (Nat.le_of_ble_eq_true rfl) rfl (fun ls hl => ?_)
  have hS : va_S A s.heap H _ := zz_Smono hS (fun _ h => h.elim)
  have hL_2 : ∀ (k i : Nat), i ≤ 13 → 13 < i + k → ∀ (H : Heap) (locs : List Loc) (ls : Array Slot), zz_Z K A s ad (zx_c K ad (zk_fo E f i) cap N G L) H → va_S A s.heap H locs → lv_has ls 2 [(1, .int (nI i)), (0, .ref (ad 3 f))] → W p l e ({ frames := 0, cells := 0, slots := 0, locals := 0 } : Room) s m ([.ref (ad 3 f)] : List Value).toArray below meth c H locs 0 0 (vx_MQ below (zz_Qc (fun v9 _ H9 => v9 = none ∧ zz_W K A ad (zx_c K ad (zk_fo E f 13) cap N G L) H9) A) (zz_XC zz_nx) ([.ref (ad 3 f)] : List Value).toArray s ({ frames := 0, cells := 0, slots := 0, locals := 0 } : Room).cells ({ frames := 0, cells := 0, slots := 0, locals := 0 } : Room).slots A) (F0 m 2 ls []) := by
    intro k
    induction k with
    | zero => intro i hi hik; omega
    | succ k ih_i =>
      intro i hii hiki H locs ls hZ hS hl
      refine lv_iload_n hx hb dX0_forgetKeys_2 rfl (lv_at hl 0 rfl) ?_
      refine lv_aload_n hx hb dX0_forgetKeys_3 rfl (lv_at hl 1 rfl) ?_
      refine zz_get (ci := 3) (C := RX0) (T := TX0) (N := 7) (v := .ref (ad 4 f)) hx hb hts hown hK (zx_fl hZ.W (f := f) hf).1 rfl zf_X0 6 (by decide) zw_345 (fun _ h9 => h9) rfl dX0_forgetKeys_4 ?_
      refine zz_alen 0 hx hb hK (zx_ks hZ.W (f := f) hf).1 rfl dX0_forgetKeys_7 ?_
      refine W.eq (g2 := F0 m 8 ls [.int (nI 13), .int (nI i)]) rfl ?_
      refine zz_ic_ge (tgt := 25) (by first | exact hB _ _ | exact hUa _ | exact hUb _ | exact hUc _ | exact hUd _ | omega) (by decide) hx hb dX0_forgetKeys_8 (by decide) (fun c_3 => ?_) (fun c_3 => ?_)
      · skip
        obtain rfl : i = 13 := by omega
        refine zz_vret hx hb hr hlocks hS (Nat.le_of_ble_eq_true rfl) (Nat.le_of_ble_eq_true rfl) dX0_forgetKeys_25 ?_
        refine ⟨?_, ?_⟩
        · skip
          first | rfl | (simp [c_3]; done) | (simp_all; done) | (split <;> first | rfl | omega | (simp_all; done); done)
        · first | exact hZ.W | (refine zx_co ?_ ?_ ?_ ?_ hZ.W <;> first | rfl | (simp [c_3]; done) | (simp_all; done) | (split <;> first | rfl | omega | (simp_all; done); done))
      · skip
        refine lv_aload_n hx hb dX0_forgetKeys_11 rfl (lv_at hl 1 rfl) ?_
        refine zz_get (ci := 3) (C := RX0) (T := TX0) (N := 7) (v := .ref (ad 4 f)) hx hb hts hown hK (zx_fl hZ.W (f := f) hf).1 rfl zf_X0 6 (by decide) zw_345 (fun _ h9 => h9) rfl dX0_forgetKeys_12 ?_
        refine lv_iload_n hx hb dX0_forgetKeys_15 rfl (lv_at hl 0 rfl) ?_
        refine lv_ldc (v := 2147483647) hx hb hown (hts _ zw_124) dX0_forgetKeys_16 ?_
        have haA_7 := (zx_ks hZ.W (f := f) hf).2
        refine zz_iast (x := 2147483647) hx hb hK hS (zx_ks hZ.W (f := f) hf).1 haA_7 (vp_in_nI (show i < 13 by omega) (by decide)) dX0_forgetKeys_18 (fun H locs ha_5 hz_6 ho_4 hS => ?_)
        have hZ : zz_Z K A s ad (zx_c K ad (zg (zk_fo E f i) (1 + f) i 2147483647) cap N G L) H := hZ.put haA_7 hz_6 ho_4 (zx_put_key hZ.W hf (nI_clamp (by omega)) ha_5 ho_4)
        refine zz_inc (k := 0) (lv' := [(1, .int (nI (i + 1))), (0, .ref (ad 3 f))]) hx hb dX0_forgetKeys_19 hl rfl (Nat.le_of_ble_eq_true rfl) rfl (fun ls hl => ?_)
        refine lv_goto (tgt := 2) hx hb dX0_forgetKeys_22 (by decide) ?_
        refine ih_i (i + 1) (by omega) (by omega) _ _ _ ?_ hS ?_
        · rw [zk_fo_s] at hZ; exact hZ
        · skip
          exact lv_sub hl [0, 1] rfl
  refine hL_2 (13 + 1) 0 (by first | omega | exact Nat.zero_le _) (by first | omega | (rw [Nat.zero_add]; exact Nat.lt_succ_self _)) _ _ _ ?_ hS ?_
  · rw [zk_fo_0]; exact hZ
  exact lv_sub hl [0, 1] rfl

set_option maxHeartbeats 4000000 in
set_option maxRecDepth 100000 in
theorem c_X0_keyFor (l : Launch) {K : zz_G} {A : Nat → Prop} {ad : Nat → Nat → Nat} {E : Nat → Nat → Int32} {cap : Nat → Nat} {N : Nat → Nat → Nat} {G : Nat → Nat → Int32} {L : Nat → Int64} (hI : zq N) {f : Nat} (hf : f < N 0 0) {a : Nat} (ha : a < 2 ^ 31) : zz_C l yX0_keyFor cX0_keyFor 3 (Option.some FieldType.int) ({ frames := 0, cells := 0, slots := 0, locals := 0 } : Room) K A [.ref (ad 3 f), .int (nI a)] (fun H => zz_W K A ad (zx_c K ad E cap N G L) H) (fun v9 _ _ => v9 = some (.int (if a < 13 then E (1 + f) a else 2147483647))) zz_nx zz_no := by
  refine zz_body (by decide +kernel) (Nat.le_of_ble_eq_true rfl) ?_
  intro p e s m below meth c ls hx hb hr hml hts hown hlocks hmn htab hE hA hP hl
  have hN := hE.N
  have hK := hE.K
  have hown : s.vm.findClass RX0 = some m.cls := hown
  have hl : lv_has ls 3 [(0, .ref (ad 3 f)), (1, .int (nI a))] := hl
  have hZ : zz_Z K A s ad (zx_c K ad E cap N G L) s.heap := ⟨hE, hA, hP⟩
  have hS : va_S zz_no s.heap s.heap [] := va_S.rf
  obtain ⟨H, hH⟩ : ∃ z, z = s.heap := ⟨_, rfl⟩
  have hS0 : va_S zz_no s.heap H [] := by rw [hH]; exact hS
  rw [← hH] at hZ
  have hE0 := hE
  clear hS
  have hS := hS0
  have hB := hI.B
  have h00 := hI.f
  have h01 := hI.p
  have h02 := hI.b
  show W p l e _ s m _ below meth c s.heap [] 0 0 _ (F0 m 0 ls [])
  rw [← hH]
  refine lv_iload_n hx hb dX0_keyFor_0 rfl (lv_at hl 1 rfl) ?_
  refine lv_if_lt (tgt := 17) hx hb dX0_keyFor_1 (by decide) (fun c_1 => ?_) (fun c_1 => ?_)
  · skip
    exact absurd c_1 (nI_pos ha)
  · skip
    refine lv_iload_n hx hb dX0_keyFor_4 rfl (lv_at hl 1 rfl) ?_
    refine lv_aload_n hx hb dX0_keyFor_5 rfl (lv_at hl 0 rfl) ?_
    refine zz_get (ci := 3) (C := RX0) (T := TX0) (N := 7) (v := .ref (ad 4 f)) hx hb hts hown hK (zx_fl hZ.W (f := f) hf).1 rfl zf_X0 6 (by decide) zw_345 (fun _ h9 => h9) rfl dX0_keyFor_6 ?_
    refine zz_alen 0 hx hb hK (zx_ks hZ.W (f := f) hf).1 rfl dX0_keyFor_9 ?_
    refine W.eq (g2 := F0 m 10 ls [.int (nI 13), .int (nI a)]) rfl ?_
    refine zz_ic_ge (tgt := 17) (by first | exact hB _ _ | exact hUa _ | exact hUb _ | exact hUc _ | exact hUd _ | omega) (by decide) hx hb dX0_keyFor_10 (by decide) (fun c_2 => ?_) (fun c_2 => ?_)
    · skip
      refine zz_con 0 hx hb dX0_keyFor_17 (by decide) ?_
      refine lv_istore_n (lv' := [(2, .int (nI 0)), (0, .ref (ad 3 f)), (1, .int (nI a))]) hx hb dX0_keyFor_18 rfl hl (Nat.le_of_ble_eq_true rfl) rfl (fun ls hl => ?_)
      refine lv_iload_n hx hb dX0_keyFor_19 rfl (lv_at hl 0 rfl) ?_
      refine zz_if_eq (tgt := 32) (by decide) hx hb dX0_keyFor_20 (by decide) (fun c_3 => ?_) (fun c_3 => ?_)
      · skip
        refine lv_ldc (v := 2147483647) hx hb hown (hts _ zw_124) dX0_keyFor_32 ?_
        refine zz_iret hx hb hr hlocks hS (Nat.le_of_ble_eq_true rfl) (Nat.le_of_ble_eq_true rfl) dX0_keyFor_34 ?_
        first | rfl | (simp [c_1, c_2, c_3]; done) | (simp [c_1, c_2, c_3]; done) | (simp_all; done) | (split <;> first | rfl | omega | (simp_all; done); done)
      · skip
        refine lv_aload_n hx hb dX0_keyFor_23 rfl (lv_at hl 1 rfl) ?_
        refine zz_get (ci := 3) (C := RX0) (T := TX0) (N := 7) (v := .ref (ad 4 f)) hx hb hts hown hK (zx_fl hZ.W (f := f) hf).1 rfl zf_X0 6 (by decide) zw_345 (fun _ h9 => h9) rfl dX0_keyFor_24 ?_
        refine lv_iload_n hx hb dX0_keyFor_27 rfl (lv_at hl 2 rfl) ?_
        refine zz_iald (y := E (1 + f) a) hx hb hK (zx_ks hZ.W (f := f) hf).1 (vp_in_nI (show a < 13 by omega) (by decide)) dX0_keyFor_28 (by rw [nI_clamp (by omega)]) ?_
        refine lv_goto (tgt := 34) hx hb dX0_keyFor_29 (by decide) ?_
        refine zz_iret hx hb hr hlocks hS (Nat.le_of_ble_eq_true rfl) (Nat.le_of_ble_eq_true rfl) dX0_keyFor_34 ?_
        first | rfl | (simp [c_1, c_2, c_3]; done) | (simp [c_1, c_2, c_3]; done) | (simp_all; done) | (split <;> first | rfl | omega | (simp_all; done); done)
    · skip
      refine zz_con 1 hx hb dX0_keyFor_13 (by decide) ?_
      refine lv_goto (tgt := 18) hx hb dX0_keyFor_14 (by decide) ?_
      refine lv_istore_n (lv' := [(2, .int (nI 1)), (0, .ref (ad 3 f)), (1, .int (nI a))]) hx hb dX0_keyFor_18 rfl hl (Nat.le_of_ble_eq_true rfl) rfl (fun ls hl => ?_)
      refine lv_iload_n hx hb dX0_keyFor_19 rfl (lv_at hl 0 rfl) ?_
      refine zz_if_eq (tgt := 32) (by decide) hx hb dX0_keyFor_20 (by decide) (fun c_4 => ?_) (fun c_4 => ?_)
      · skip
        refine lv_ldc (v := 2147483647) hx hb hown (hts _ zw_124) dX0_keyFor_32 ?_
        refine zz_iret hx hb hr hlocks hS (Nat.le_of_ble_eq_true rfl) (Nat.le_of_ble_eq_true rfl) dX0_keyFor_34 ?_
        first | rfl | (simp [c_1, c_2, c_4]; done) | (simp [c_1, c_2, c_4]; done) | (simp_all; done) | (split <;> first | rfl | omega | (simp_all; done); done)
      · skip
        refine lv_aload_n hx hb dX0_keyFor_23 rfl (lv_at hl 1 rfl) ?_
        refine zz_get (ci := 3) (C := RX0) (T := TX0) (N := 7) (v := .ref (ad 4 f)) hx hb hts hown hK (zx_fl hZ.W (f := f) hf).1 rfl zf_X0 6 (by decide) zw_345 (fun _ h9 => h9) rfl dX0_keyFor_24 ?_
        refine lv_iload_n hx hb dX0_keyFor_27 rfl (lv_at hl 2 rfl) ?_
        refine zz_iald (y := E (1 + f) a) hx hb hK (zx_ks hZ.W (f := f) hf).1 (vp_in_nI (show a < 13 by omega) (by decide)) dX0_keyFor_28 (by rw [nI_clamp (by omega)]) ?_
        refine lv_goto (tgt := 34) hx hb dX0_keyFor_29 (by decide) ?_
        refine zz_iret hx hb hr hlocks hS (Nat.le_of_ble_eq_true rfl) (Nat.le_of_ble_eq_true rfl) dX0_keyFor_34 ?_
        first | rfl | (simp [c_1, c_2, c_4]; done) | (simp [c_1, c_2, c_4]; done) | (simp_all; done) | (split <;> first | rfl | omega | (simp_all; done); done)

set_option maxHeartbeats 4000000 in
set_option maxRecDepth 100000 in
theorem c_X0_offerKey (l : Launch) {K : zz_G} {A : Nat → Prop} {ad : Nat → Nat → Nat} {E : Nat → Nat → Int32} {cap : Nat → Nat} {N : Nat → Nat → Nat} {G : Nat → Nat → Int32} {L : Nat → Int64} (hI : zq N) {f : Nat} (hf : f < N 0 0) {a : Nat} (ha : a < 2 ^ 31) {v : Int32} : zz_C l yX0_offerKey cX0_offerKey 3 (Option.none : Option Jvm.ClassFile.FieldType) ({ frames := 0, cells := 0, slots := 0, locals := 0 } : Room) K A [.ref (ad 3 f), .int (nI a), .int v] (fun H => zz_W K A ad (zx_c K ad E cap N G L) H) (fun v9 _ H9 => v9 = none ∧ zz_W K A ad (zx_c K ad (zk_of E f a v) cap N G L) H9) zz_nx A := by
  refine zz_body (by decide +kernel) (Nat.le_of_ble_eq_true rfl) ?_
  intro p e s m below meth c ls hx hb hr hml hts hown hlocks hmn htab hE hA hP hl
  have hN := hE.N
  have hK := hE.K
  have hown : s.vm.findClass RX0 = some m.cls := hown
  have hl : lv_has ls 3 [(0, .ref (ad 3 f)), (1, .int (nI a)), (2, .int v)] := hl
  have hZ : zz_Z K A s ad (zx_c K ad E cap N G L) s.heap := ⟨hE, hA, hP⟩
  have hS : va_S zz_no s.heap s.heap [] := va_S.rf
  obtain ⟨H, hH⟩ : ∃ z, z = s.heap := ⟨_, rfl⟩
  have hS0 : va_S zz_no s.heap H [] := by rw [hH]; exact hS
  rw [← hH] at hZ
  have hE0 := hE
  clear hS
  have hS := hS0
  have hB := hI.B
  have h00 := hI.f
  have h01 := hI.p
  have h02 := hI.b
  show W p l e _ s m _ below meth c s.heap [] 0 0 _ (F0 m 0 ls [])
  rw [← hH]
  refine lv_iload_n hx hb dX0_offerKey_0 rfl (lv_at hl 1 rfl) ?_
  refine lv_if_lt (tgt := 30) hx hb dX0_offerKey_1 (by decide) (fun c_1 => ?_) (fun c_1 => ?_)
  · skip
    exact absurd c_1 (nI_pos ha)
  · skip
    refine lv_iload_n hx hb dX0_offerKey_4 rfl (lv_at hl 1 rfl) ?_
    refine lv_aload_n hx hb dX0_offerKey_5 rfl (lv_at hl 0 rfl) ?_
    refine zz_get (ci := 3) (C := RX0) (T := TX0) (N := 7) (v := .ref (ad 4 f)) hx hb hts hown hK (zx_fl hZ.W (f := f) hf).1 rfl zf_X0 6 (by decide) zw_345 (fun _ h9 => h9) rfl dX0_offerKey_6 ?_
    refine zz_alen 0 hx hb hK (zx_ks hZ.W (f := f) hf).1 rfl dX0_offerKey_9 ?_
    refine W.eq (g2 := F0 m 10 ls [.int (nI 13), .int (nI a)]) rfl ?_
    refine zz_ic_ge (tgt := 30) (by first | exact hB _ _ | exact hUa _ | exact hUb _ | exact hUc _ | exact hUd _ | omega) (by decide) hx hb dX0_offerKey_10 (by decide) (fun c_2 => ?_) (fun c_2 => ?_)
    · skip
      have hS : va_S A s.heap H _ := zz_Smono hS (fun _ h => h.elim)
      refine zz_vret hx hb hr hlocks hS (Nat.le_of_ble_eq_true rfl) (Nat.le_of_ble_eq_true rfl) dX0_offerKey_30 ?_
      refine ⟨?_, ?_⟩
      · skip
        first | rfl | (unfold zk_of; rw [if_neg (fun h => absurd h.1 (by omega))]; done) | (unfold zk_of; rw [if_neg (fun h => absurd h.2 (Int32.not_lt.mpr (by assumption)))]; done) | (unfold zk_of; rw [if_pos ⟨by assumption, Int32.not_le.mp (by assumption)⟩]; done) | (simp [c_1, c_2]; done) | (simp_all; done) | (split <;> first | rfl | omega | (simp_all; done); done)
      · first | exact hZ.W | (refine zx_co ?_ ?_ ?_ ?_ hZ.W <;> first | rfl | (unfold zk_of; rw [if_neg (fun h => absurd h.1 (by omega))]; done) | (unfold zk_of; rw [if_neg (fun h => absurd h.2 (Int32.not_lt.mpr (by assumption)))]; done) | (unfold zk_of; rw [if_pos ⟨by assumption, Int32.not_le.mp (by assumption)⟩]; done) | (simp [c_1, c_2]; done) | (simp_all; done) | (split <;> first | rfl | omega | (simp_all; done); done))
    · skip
      refine lv_iload_n hx hb dX0_offerKey_13 rfl (lv_at hl 2 rfl) ?_
      refine lv_aload_n hx hb dX0_offerKey_14 rfl (lv_at hl 0 rfl) ?_
      refine zz_get (ci := 3) (C := RX0) (T := TX0) (N := 7) (v := .ref (ad 4 f)) hx hb hts hown hK (zx_fl hZ.W (f := f) hf).1 rfl zf_X0 6 (by decide) zw_345 (fun _ h9 => h9) rfl dX0_offerKey_15 ?_
      refine lv_iload_n hx hb dX0_offerKey_18 rfl (lv_at hl 1 rfl) ?_
      refine zz_iald (y := E (1 + f) a) hx hb hK (zx_ks hZ.W (f := f) hf).1 (vp_in_nI (show a < 13 by omega) (by decide)) dX0_offerKey_19 (by rw [nI_clamp (by omega)]) ?_
      refine lv_icmp_ge (tgt := 30) hx hb dX0_offerKey_20 (by decide) (fun c_3 => ?_) (fun c_3 => ?_)
      · skip
        have hS : va_S A s.heap H _ := zz_Smono hS (fun _ h => h.elim)
        refine zz_vret hx hb hr hlocks hS (Nat.le_of_ble_eq_true rfl) (Nat.le_of_ble_eq_true rfl) dX0_offerKey_30 ?_
        refine ⟨?_, ?_⟩
        · skip
          first | rfl | (unfold zk_of; rw [if_neg (fun h => absurd h.1 (by omega))]; done) | (unfold zk_of; rw [if_neg (fun h => absurd h.2 (Int32.not_lt.mpr (by assumption)))]; done) | (unfold zk_of; rw [if_pos ⟨by assumption, Int32.not_le.mp (by assumption)⟩]; done) | (simp [c_1, c_2, c_3]; done) | (simp_all; done) | (split <;> first | rfl | omega | (simp_all; done); done)
        · first | exact hZ.W | (refine zx_co ?_ ?_ ?_ ?_ hZ.W <;> first | rfl | (unfold zk_of; rw [if_neg (fun h => absurd h.1 (by omega))]; done) | (unfold zk_of; rw [if_neg (fun h => absurd h.2 (Int32.not_lt.mpr (by assumption)))]; done) | (unfold zk_of; rw [if_pos ⟨by assumption, Int32.not_le.mp (by assumption)⟩]; done) | (simp [c_1, c_2, c_3]; done) | (simp_all; done) | (split <;> first | rfl | omega | (simp_all; done); done))
      · skip
        refine lv_aload_n hx hb dX0_offerKey_23 rfl (lv_at hl 0 rfl) ?_
        refine zz_get (ci := 3) (C := RX0) (T := TX0) (N := 7) (v := .ref (ad 4 f)) hx hb hts hown hK (zx_fl hZ.W (f := f) hf).1 rfl zf_X0 6 (by decide) zw_345 (fun _ h9 => h9) rfl dX0_offerKey_24 ?_
        refine lv_iload_n hx hb dX0_offerKey_27 rfl (lv_at hl 1 rfl) ?_
        refine lv_iload_n hx hb dX0_offerKey_28 rfl (lv_at hl 2 rfl) ?_
        have hS : va_S A s.heap H _ := zz_Smono hS (fun _ h => h.elim)
        have haA_7 := (zx_ks hZ.W (f := f) hf).2
        refine zz_iast (x := v) hx hb hK hS (zx_ks hZ.W (f := f) hf).1 haA_7 (vp_in_nI (show a < 13 by omega) (by decide)) dX0_offerKey_29 (fun H locs ha_5 hz_6 ho_4 hS => ?_)
        have hZ : zz_Z K A s ad (zx_c K ad (zg E (1 + f) a v) cap N G L) H := hZ.put haA_7 hz_6 ho_4 (zx_put_key hZ.W hf (nI_clamp (by omega)) ha_5 ho_4)
        refine zz_vret hx hb hr hlocks hS (Nat.le_of_ble_eq_true rfl) (Nat.le_of_ble_eq_true rfl) dX0_offerKey_30 ?_
        refine ⟨?_, ?_⟩
        · skip
          first | rfl | (unfold zk_of; rw [if_neg (fun h => absurd h.1 (by omega))]; done) | (unfold zk_of; rw [if_neg (fun h => absurd h.2 (Int32.not_lt.mpr (by assumption)))]; done) | (unfold zk_of; rw [if_pos ⟨by assumption, Int32.not_le.mp (by assumption)⟩]; done) | (simp [c_1, c_2, c_3]; done) | (simp_all; done) | (split <;> first | rfl | omega | (simp_all; done); done)
        · first | exact hZ.W | (refine zx_co ?_ ?_ ?_ ?_ hZ.W <;> first | rfl | (unfold zk_of; rw [if_neg (fun h => absurd h.1 (by omega))]; done) | (unfold zk_of; rw [if_neg (fun h => absurd h.2 (Int32.not_lt.mpr (by assumption)))]; done) | (unfold zk_of; rw [if_pos ⟨by assumption, Int32.not_le.mp (by assumption)⟩]; done) | (simp [c_1, c_2, c_3]; done) | (simp_all; done) | (split <;> first | rfl | omega | (simp_all; done); done))

set_option maxHeartbeats 4000000 in
set_option maxRecDepth 100000 in
theorem c_X0_followWarmth (l : Launch) {K : zz_G} {A : Nat → Prop} {ad : Nat → Nat → Nat} {E : Nat → Nat → Int32} {cap : Nat → Nat} {N : Nat → Nat → Nat} {G : Nat → Nat → Int32} {L : Nat → Int64} (hI : zq N) {f : Nat} (hf : f < N 0 0) {n : Nat} (hn : n ≤ 12) : zz_C l yX0_followWarmth cX0_followWarmth 4 (Option.some FieldType.int) ({ frames := 1, cells := 0, slots := 0, locals := 24 } : Room) K A [.ref (ad 3 f), .int (nI n)] (fun H => zz_W K A ad (zx_c K ad E cap N G L) H) (fun v9 _ H9 => v9 = some (.int (zw_use (N 3 f) n (G 0 f))) ∧ zz_W K A ad (zx_c K ad E cap N (zg G 0 f (G 0 f + zw_chg (N 3 f) n (G 0 f))) L) H9) zz_nx A := by
  refine zz_body (by decide +kernel) (Nat.le_of_ble_eq_true rfl) ?_
  intro p e s m below meth c ls hx hb hr hml hts hown hlocks hmn htab hE hA hP hl
  have hN := hE.N
  have hK := hE.K
  have hown : s.vm.findClass RX0 = some m.cls := hown
  have hl : lv_has ls 4 [(0, .ref (ad 3 f)), (1, .int (nI n))] := hl
  have hZ : zz_Z K A s ad (zx_c K ad E cap N G L) s.heap := ⟨hE, hA, hP⟩
  have hS : va_S zz_no s.heap s.heap [] := va_S.rf
  obtain ⟨H, hH⟩ : ∃ z, z = s.heap := ⟨_, rfl⟩
  have hS0 : va_S zz_no s.heap H [] := by rw [hH]; exact hS
  rw [← hH] at hZ
  have hE0 := hE
  clear hS
  have hS := hS0
  have hB := hI.B
  have h00 := hI.f
  have h01 := hI.p
  have h02 := hI.b
  show W p l e _ s m _ below meth c s.heap [] 0 0 _ (F0 m 0 ls [])
  rw [← hH]
  refine lv_aload_n hx hb dX0_followWarmth_0 rfl (lv_at hl 0 rfl) ?_
  refine zz_get (ci := 3) (C := RX0) (T := TX0) (N := 7) (v := .int (nI (N 3 f))) hx hb hts hown hK (zx_fl hZ.W (f := f) hf).1 rfl zf_X0 3 (by decide) zw_339 (fun _ h9 => h9) rfl dX0_followWarmth_1 ?_
  refine zz_if_eq (tgt := 17) (by first | exact hB _ _ | exact hUa _ | exact hUb _ | exact hUc _ | exact hUd _ | omega) hx hb dX0_followWarmth_4 (by decide) (fun c_1 => ?_) (fun c_1 => ?_)
  · skip
    refine lv_sipush (v := nI 150) hx hb dX0_followWarmth_17 (by decide) ?_
    refine lv_istore_n (lv' := [(2, .int (nI 150)), (0, .ref (ad 3 f)), (1, .int (nI n))]) hx hb dX0_followWarmth_20 rfl hl (Nat.le_of_ble_eq_true rfl) rfl (fun ls hl => ?_)
    refine lv_iload_n hx hb dX0_followWarmth_21 rfl (lv_at hl 0 rfl) ?_
    refine lv_aload_n hx hb dX0_followWarmth_22 rfl (lv_at hl 1 rfl) ?_
    refine zz_get (ci := 3) (C := RX0) (T := TX0) (N := 7) (v := .int (G 0 f)) hx hb hts hown hK (zx_fl hZ.W (f := f) hf).1 rfl zf_X0 4 (by decide) zw_341 (fun _ h9 => h9) rfl dX0_followWarmth_23 ?_
    refine lv_isub hx hb dX0_followWarmth_26 ?_
    refine zz_con 4 hx hb dX0_followWarmth_27 (by decide) ?_
    refine lv_idiv hx hb dX0_followWarmth_28 (by decide) ?_
    refine lv_istore_n (lv' := [(3, .int (((nI 150) - (G 0 f)) / (nI 4))), (2, .int (nI 150)), (0, .ref (ad 3 f)), (1, .int (nI n))]) hx hb dX0_followWarmth_29 rfl hl (Nat.le_of_ble_eq_true rfl) rfl (fun ls hl => ?_)
    refine lv_aload_n hx hb dX0_followWarmth_30 rfl (lv_at hl 2 rfl) ?_
    refine lv_dup hx hb dX0_followWarmth_31 rfl ?_
    refine zz_get (ci := 3) (C := RX0) (T := TX0) (N := 7) (v := .int (G 0 f)) hx hb hts hown hK (zx_fl hZ.W (f := f) hf).1 rfl zf_X0 4 (by decide) zw_341 (fun _ h9 => h9) rfl dX0_followWarmth_32 ?_
    refine lv_iload_n hx hb dX0_followWarmth_35 rfl (lv_at hl 0 rfl) ?_
    refine lv_iadd hx hb dX0_followWarmth_36 ?_
    have hS : va_S A s.heap H _ := zz_Smono hS (fun _ h => h.elim)
    have haA_5 := (zx_fl hZ.W (f := f) hf).2
    refine zz_put (ci := 3) (C := RX0) (T := TX0) (N := 7) (v := .int ((G 0 f) + (((nI 150) - (G 0 f)) / (nI 4)))) (ty1 := .int) hx hb hts hown hK hS (zx_fl hZ.W (f := f) hf).1 haA_5 rfl zf_X0 tyX0_ok nmX0 4 (by decide) zw_341 (fun _ h9 => h9) rfl (by decide +kernel) rfl rfl (Nat.le_of_ble_eq_true rfl) dX0_followWarmth_37 (fun H locs ha_3 hz_4 ho_2 hS => ?_)
    have hZ : zz_Z K A s ad (zx_c K ad E cap N (zg G 0 f ((G 0 f) + (((nI 150) - (G 0 f)) / (nI 4)))) L) H := hZ.put haA_5 hz_4 ho_2 (zx_put_warmth hZ.W hf ha_3 ho_2)
    refine lv_aload_n hx hb dX0_followWarmth_40 rfl (lv_at hl 2 rfl) ?_
    refine zz_get (ci := 3) (C := RX0) (T := TX0) (N := 7) (v := .int (nI (N 3 f))) hx hb hts hown hK (zx_fl hZ.W (f := f) hf).1 rfl zf_X0 3 (by decide) zw_339 (fun _ h9 => h9) rfl dX0_followWarmth_41 ?_
    refine zz_if_eq (tgt := 54) (by first | exact hB _ _ | exact hUa _ | exact hUb _ | exact hUc _ | exact hUd _ | omega) hx hb dX0_followWarmth_44 (by decide) (fun c_6 => ?_) (fun c_6 => ?_)
    · skip
      refine zz_con 0 hx hb dX0_followWarmth_54 (by decide) ?_
      refine zz_iret hx hb hr hlocks hS (Nat.le_of_ble_eq_true rfl) (Nat.le_of_ble_eq_true rfl) dX0_followWarmth_55 ?_
      refine ⟨?_, ?_⟩
      · skip
        first | rfl | (simp [zw_use, zw_chg, zw_want, c_1, c_6]; done) | (simp [c_1, c_6]; done) | (simp_all; done) | (split <;> first | rfl | omega | (simp_all; done); done)
      · first | exact hZ.W | (refine zx_co ?_ ?_ ?_ ?_ hZ.W <;> first | rfl | (simp [zw_use, zw_chg, zw_want, c_1, c_6]; done) | (simp [c_1, c_6]; done) | (simp_all; done) | (split <;> first | rfl | omega | (simp_all; done); done))
    · skip
      exact absurd c_1 c_6
  · skip
    refine lv_sipush (v := nI 210) hx hb dX0_followWarmth_7 (by decide) ?_
    refine zz_con 4 hx hb dX0_followWarmth_10 (by decide) ?_
    refine lv_iload_n hx hb dX0_followWarmth_11 rfl (lv_at hl 1 rfl) ?_
    refine zz_mul hx hb dX0_followWarmth_12 ?_
    refine zz_add hx hb dX0_followWarmth_13 ?_
    refine lv_goto (tgt := 20) hx hb dX0_followWarmth_14 (by decide) ?_
    refine lv_istore_n (lv' := [(2, .int (nI (210 + (4 * n)))), (0, .ref (ad 3 f)), (1, .int (nI n))]) hx hb dX0_followWarmth_20 rfl hl (Nat.le_of_ble_eq_true rfl) rfl (fun ls hl => ?_)
    refine lv_iload_n hx hb dX0_followWarmth_21 rfl (lv_at hl 0 rfl) ?_
    refine lv_aload_n hx hb dX0_followWarmth_22 rfl (lv_at hl 1 rfl) ?_
    refine zz_get (ci := 3) (C := RX0) (T := TX0) (N := 7) (v := .int (G 0 f)) hx hb hts hown hK (zx_fl hZ.W (f := f) hf).1 rfl zf_X0 4 (by decide) zw_341 (fun _ h9 => h9) rfl dX0_followWarmth_23 ?_
    refine lv_isub hx hb dX0_followWarmth_26 ?_
    refine zz_con 4 hx hb dX0_followWarmth_27 (by decide) ?_
    refine lv_idiv hx hb dX0_followWarmth_28 (by decide) ?_
    refine lv_istore_n (lv' := [(3, .int (((nI (210 + (4 * n))) - (G 0 f)) / (nI 4))), (2, .int (nI (210 + (4 * n)))), (0, .ref (ad 3 f)), (1, .int (nI n))]) hx hb dX0_followWarmth_29 rfl hl (Nat.le_of_ble_eq_true rfl) rfl (fun ls hl => ?_)
    refine lv_aload_n hx hb dX0_followWarmth_30 rfl (lv_at hl 2 rfl) ?_
    refine lv_dup hx hb dX0_followWarmth_31 rfl ?_
    refine zz_get (ci := 3) (C := RX0) (T := TX0) (N := 7) (v := .int (G 0 f)) hx hb hts hown hK (zx_fl hZ.W (f := f) hf).1 rfl zf_X0 4 (by decide) zw_341 (fun _ h9 => h9) rfl dX0_followWarmth_32 ?_
    refine lv_iload_n hx hb dX0_followWarmth_35 rfl (lv_at hl 0 rfl) ?_
    refine lv_iadd hx hb dX0_followWarmth_36 ?_
    have hS : va_S A s.heap H _ := zz_Smono hS (fun _ h => h.elim)
    have haA_10 := (zx_fl hZ.W (f := f) hf).2
    refine zz_put (ci := 3) (C := RX0) (T := TX0) (N := 7) (v := .int ((G 0 f) + (((nI (210 + (4 * n))) - (G 0 f)) / (nI 4)))) (ty1 := .int) hx hb hts hown hK hS (zx_fl hZ.W (f := f) hf).1 haA_10 rfl zf_X0 tyX0_ok nmX0 4 (by decide) zw_341 (fun _ h9 => h9) rfl (by decide +kernel) rfl rfl (Nat.le_of_ble_eq_true rfl) dX0_followWarmth_37 (fun H locs ha_8 hz_9 ho_7 hS => ?_)
    have hZ : zz_Z K A s ad (zx_c K ad E cap N (zg G 0 f ((G 0 f) + (((nI (210 + (4 * n))) - (G 0 f)) / (nI 4)))) L) H := hZ.put haA_10 hz_9 ho_7 (zx_put_warmth hZ.W hf ha_8 ho_7)
    refine lv_aload_n hx hb dX0_followWarmth_40 rfl (lv_at hl 2 rfl) ?_
    refine zz_get (ci := 3) (C := RX0) (T := TX0) (N := 7) (v := .int (nI (N 3 f))) hx hb hts hown hK (zx_fl hZ.W (f := f) hf).1 rfl zf_X0 3 (by decide) zw_339 (fun _ h9 => h9) rfl dX0_followWarmth_41 ?_
    refine zz_if_eq (tgt := 54) (by first | exact hB _ _ | exact hUa _ | exact hUb _ | exact hUc _ | exact hUd _ | omega) hx hb dX0_followWarmth_44 (by decide) (fun c_11 => ?_) (fun c_11 => ?_)
    · skip
      exact absurd c_11 c_1
    · skip
      refine lv_iload_n hx hb dX0_followWarmth_47 rfl (lv_at hl 0 rfl) ?_
      refine va_mabs hx hb (by rw [hml]; exact hl.1.symm) hown (hts _ zw_182) (hts _ zw_183) (hts _ zw_13) (hts _ zw_184) (Nat.le_of_ble_eq_true rfl) (Nat.le_of_ble_eq_true rfl) (Nat.le_of_ble_eq_true rfl) (Nat.le_of_ble_eq_true rfl) dX0_followWarmth_48 ?_
      refine lv_goto (tgt := 55) hx hb dX0_followWarmth_51 (by decide) ?_
      refine zz_iret hx hb hr hlocks hS (Nat.le_of_ble_eq_true rfl) (Nat.le_of_ble_eq_true rfl) dX0_followWarmth_55 ?_
      refine ⟨?_, ?_⟩
      · skip
        first | rfl | (simp [zw_use, zw_chg, zw_want, c_1, c_11]; done) | (simp [c_1, c_11]; done) | (simp_all; done) | (split <;> first | rfl | omega | (simp_all; done); done)
      · first | exact hZ.W | (refine zx_co ?_ ?_ ?_ ?_ hZ.W <;> first | rfl | (simp [zw_use, zw_chg, zw_want, c_1, c_11]; done) | (simp [c_1, c_11]; done) | (simp_all; done) | (split <;> first | rfl | omega | (simp_all; done); done))

set_option maxHeartbeats 4000000 in
set_option maxRecDepth 100000 in
theorem c_X0_followAir (l : Launch) {K : zz_G} {A : Nat → Prop} {ad : Nat → Nat → Nat} {E : Nat → Nat → Int32} {cap : Nat → Nat} {N : Nat → Nat → Nat} {G : Nat → Nat → Int32} {L : Nat → Int64} (hI : zq N) {f : Nat} (hf : f < N 0 0) {n : Nat} (hn : n ≤ 12) : zz_C l yX0_followAir cX0_followAir 3 (Option.none : Option Jvm.ClassFile.FieldType) ({ frames := 1, cells := 0, slots := 0, locals := 24 } : Room) K A [.ref (ad 3 f), .int (nI n)] (fun H => zz_W K A ad (zx_c K ad E cap N G L) H) (fun v9 _ H9 => v9 = none ∧ zz_W K A ad (zx_c K ad E cap N (zg G 1 f (zw_air (N 3 f) n (G 1 f))) L) H9) zz_nx A := by
  refine zz_body (by decide +kernel) (Nat.le_of_ble_eq_true rfl) ?_
  intro p e s m below meth c ls hx hb hr hml hts hown hlocks hmn htab hE hA hP hl
  have hN := hE.N
  have hK := hE.K
  have hown : s.vm.findClass RX0 = some m.cls := hown
  have hl : lv_has ls 3 [(0, .ref (ad 3 f)), (1, .int (nI n))] := hl
  have hZ : zz_Z K A s ad (zx_c K ad E cap N G L) s.heap := ⟨hE, hA, hP⟩
  have hS : va_S zz_no s.heap s.heap [] := va_S.rf
  obtain ⟨H, hH⟩ : ∃ z, z = s.heap := ⟨_, rfl⟩
  have hS0 : va_S zz_no s.heap H [] := by rw [hH]; exact hS
  rw [← hH] at hZ
  have hE0 := hE
  clear hS
  have hS := hS0
  have hB := hI.B
  have h00 := hI.f
  have h01 := hI.p
  have h02 := hI.b
  show W p l e _ s m _ below meth c s.heap [] 0 0 _ (F0 m 0 ls [])
  rw [← hH]
  refine lv_aload_n hx hb dX0_followAir_0 rfl (lv_at hl 0 rfl) ?_
  refine zz_get (ci := 3) (C := RX0) (T := TX0) (N := 7) (v := .int (nI (N 3 f))) hx hb hts hown hK (zx_fl hZ.W (f := f) hf).1 rfl zf_X0 3 (by decide) zw_339 (fun _ h9 => h9) rfl dX0_followAir_1 ?_
  refine zz_if_eq (tgt := 12) (by first | exact hB _ _ | exact hUa _ | exact hUb _ | exact hUc _ | exact hUd _ | omega) hx hb dX0_followAir_4 (by decide) (fun c_1 => ?_) (fun c_1 => ?_)
  · skip
    refine lv_bipush (v := nI 10) hx hb dX0_followAir_12 (by decide) ?_
    refine lv_istore_n (lv' := [(2, .int (nI 10)), (0, .ref (ad 3 f)), (1, .int (nI n))]) hx hb dX0_followAir_14 rfl hl (Nat.le_of_ble_eq_true rfl) rfl (fun ls hl => ?_)
    refine lv_aload_n hx hb dX0_followAir_15 rfl (lv_at hl 1 rfl) ?_
    refine lv_aload_n hx hb dX0_followAir_16 rfl (lv_at hl 1 rfl) ?_
    refine zz_get (ci := 3) (C := RX0) (T := TX0) (N := 7) (v := .int (G 1 f)) hx hb hts hown hK (zx_fl hZ.W (f := f) hf).1 rfl zf_X0 5 (by decide) zw_343 (fun _ h9 => h9) rfl dX0_followAir_17 ?_
    refine lv_bipush (v := nI 25) hx hb dX0_followAir_20 (by decide) ?_
    refine lv_iload_n hx hb dX0_followAir_22 rfl (lv_at hl 2 rfl) ?_
    refine zz_mul hx hb dX0_followAir_23 ?_
    refine lv_iadd hx hb dX0_followAir_24 ?_
    refine lv_iload_n hx hb dX0_followAir_25 rfl (lv_at hl 0 rfl) ?_
    refine lv_isub hx hb dX0_followAir_26 ?_
    refine lv_sipush (v := nI 400) hx hb dX0_followAir_27 (by decide) ?_
    refine va_mmax hx hb (by rw [hml]; exact hl.1.symm) hown (hts _ zw_747) (hts _ zw_382) (hts _ zw_13) (hts _ zw_383) (Nat.le_of_ble_eq_true rfl) (Nat.le_of_ble_eq_true rfl) (Nat.le_of_ble_eq_true rfl) (Nat.le_of_ble_eq_true rfl) dX0_followAir_30 ?_
    have hS : va_S A s.heap H _ := zz_Smono hS (fun _ h => h.elim)
    have haA_5 := (zx_fl hZ.W (f := f) hf).2
    refine zz_put (ci := 3) (C := RX0) (T := TX0) (N := 7) (v := .int (if ((G 1 f) + (nI (25 * n))) - (nI 10) < nI 400 then nI 400 else ((G 1 f) + (nI (25 * n))) - (nI 10))) (ty1 := .int) hx hb hts hown hK hS (zx_fl hZ.W (f := f) hf).1 haA_5 rfl zf_X0 tyX0_ok nmX0 5 (by decide) zw_343 (fun _ h9 => h9) rfl (by decide +kernel) rfl rfl (Nat.le_of_ble_eq_true rfl) dX0_followAir_33 (fun H locs ha_3 hz_4 ho_2 hS => ?_)
    have hZ : zz_Z K A s ad (zx_c K ad E cap N (zg G 1 f (if ((G 1 f) + (nI (25 * n))) - (nI 10) < nI 400 then nI 400 else ((G 1 f) + (nI (25 * n))) - (nI 10))) L) H := hZ.put haA_5 hz_4 ho_2 (zx_put_air hZ.W hf ha_3 ho_2)
    refine zz_vret hx hb hr hlocks hS (Nat.le_of_ble_eq_true rfl) (Nat.le_of_ble_eq_true rfl) dX0_followAir_36 ?_
    refine ⟨?_, ?_⟩
    · skip
      first | rfl | (simp [zw_air, c_1]; done) | (simp [c_1]; done) | (simp_all; done) | (split <;> first | rfl | omega | (simp_all; done); done)
    · first | exact hZ.W | (refine zx_co ?_ ?_ ?_ ?_ hZ.W <;> first | rfl | (simp [zw_air, c_1]; done) | (simp [c_1]; done) | (simp_all; done) | (split <;> first | rfl | omega | (simp_all; done); done))
  · skip
    refine lv_bipush (v := nI 30) hx hb dX0_followAir_7 (by decide) ?_
    refine lv_goto (tgt := 14) hx hb dX0_followAir_9 (by decide) ?_
    refine lv_istore_n (lv' := [(2, .int (nI 30)), (0, .ref (ad 3 f)), (1, .int (nI n))]) hx hb dX0_followAir_14 rfl hl (Nat.le_of_ble_eq_true rfl) rfl (fun ls hl => ?_)
    refine lv_aload_n hx hb dX0_followAir_15 rfl (lv_at hl 1 rfl) ?_
    refine lv_aload_n hx hb dX0_followAir_16 rfl (lv_at hl 1 rfl) ?_
    refine zz_get (ci := 3) (C := RX0) (T := TX0) (N := 7) (v := .int (G 1 f)) hx hb hts hown hK (zx_fl hZ.W (f := f) hf).1 rfl zf_X0 5 (by decide) zw_343 (fun _ h9 => h9) rfl dX0_followAir_17 ?_
    refine lv_bipush (v := nI 25) hx hb dX0_followAir_20 (by decide) ?_
    refine lv_iload_n hx hb dX0_followAir_22 rfl (lv_at hl 2 rfl) ?_
    refine zz_mul hx hb dX0_followAir_23 ?_
    refine lv_iadd hx hb dX0_followAir_24 ?_
    refine lv_iload_n hx hb dX0_followAir_25 rfl (lv_at hl 0 rfl) ?_
    refine lv_isub hx hb dX0_followAir_26 ?_
    refine lv_sipush (v := nI 400) hx hb dX0_followAir_27 (by decide) ?_
    refine va_mmax hx hb (by rw [hml]; exact hl.1.symm) hown (hts _ zw_747) (hts _ zw_382) (hts _ zw_13) (hts _ zw_383) (Nat.le_of_ble_eq_true rfl) (Nat.le_of_ble_eq_true rfl) (Nat.le_of_ble_eq_true rfl) (Nat.le_of_ble_eq_true rfl) dX0_followAir_30 ?_
    have hS : va_S A s.heap H _ := zz_Smono hS (fun _ h => h.elim)
    have haA_9 := (zx_fl hZ.W (f := f) hf).2
    refine zz_put (ci := 3) (C := RX0) (T := TX0) (N := 7) (v := .int (if ((G 1 f) + (nI (25 * n))) - (nI 30) < nI 400 then nI 400 else ((G 1 f) + (nI (25 * n))) - (nI 30))) (ty1 := .int) hx hb hts hown hK hS (zx_fl hZ.W (f := f) hf).1 haA_9 rfl zf_X0 tyX0_ok nmX0 5 (by decide) zw_343 (fun _ h9 => h9) rfl (by decide +kernel) rfl rfl (Nat.le_of_ble_eq_true rfl) dX0_followAir_33 (fun H locs ha_7 hz_8 ho_6 hS => ?_)
    have hZ : zz_Z K A s ad (zx_c K ad E cap N (zg G 1 f (if ((G 1 f) + (nI (25 * n))) - (nI 30) < nI 400 then nI 400 else ((G 1 f) + (nI (25 * n))) - (nI 30))) L) H := hZ.put haA_9 hz_8 ho_6 (zx_put_air hZ.W hf ha_7 ho_6)
    refine zz_vret hx hb hr hlocks hS (Nat.le_of_ble_eq_true rfl) (Nat.le_of_ble_eq_true rfl) dX0_followAir_36 ?_
    refine ⟨?_, ?_⟩
    · skip
      first | rfl | (simp [zw_air, c_1]; done) | (simp [c_1]; done) | (simp_all; done) | (split <;> first | rfl | omega | (simp_all; done); done)
    · first | exact hZ.W | (refine zx_co ?_ ?_ ?_ ?_ hZ.W <;> first | rfl | (simp [zw_air, c_1]; done) | (simp [c_1]; done) | (simp_all; done) | (split <;> first | rfl | omega | (simp_all; done); done))

set_option maxHeartbeats 4000000 in
set_option maxRecDepth 100000 in
theorem c_X0_discomfortOfOnePerson (l : Launch) {K : zz_G} {A : Nat → Prop} {ad : Nat → Nat → Nat} {E : Nat → Nat → Int32} {cap : Nat → Nat} {N : Nat → Nat → Nat} {G : Nat → Nat → Int32} {L : Nat → Int64} (hI : zq N) {f : Nat} (hf : f < N 0 0) : zz_C l yX0_discomfortOfOnePerson cX0_discomfortOfOnePerson 2 (Option.some FieldType.int) ({ frames := 1, cells := 0, slots := 0, locals := 24 } : Room) K A [.ref (ad 3 f)] (fun H => zz_W K A ad (zx_c K ad E cap N G L) H) (fun v9 _ _ => v9 = some (.int (zw_one (G 0 f) (G 1 f)))) zz_nx zz_no := by
  refine zz_body (by decide +kernel) (Nat.le_of_ble_eq_true rfl) ?_
  intro p e s m below meth c ls hx hb hr hml hts hown hlocks hmn htab hE hA hP hl
  have hN := hE.N
  have hK := hE.K
  have hown : s.vm.findClass RX0 = some m.cls := hown
  have hl : lv_has ls 2 [(0, .ref (ad 3 f))] := hl
  have hZ : zz_Z K A s ad (zx_c K ad E cap N G L) s.heap := ⟨hE, hA, hP⟩
  have hS : va_S zz_no s.heap s.heap [] := va_S.rf
  obtain ⟨H, hH⟩ : ∃ z, z = s.heap := ⟨_, rfl⟩
  have hS0 : va_S zz_no s.heap H [] := by rw [hH]; exact hS
  rw [← hH] at hZ
  have hE0 := hE
  clear hS
  have hS := hS0
  have hB := hI.B
  have h00 := hI.f
  have h01 := hI.p
  have h02 := hI.b
  show W p l e _ s m _ below meth c s.heap [] 0 0 _ (F0 m 0 ls [])
  rw [← hH]
  refine lv_aload_n hx hb dX0_discomfortOfOnePerson_0 rfl (lv_at hl 0 rfl) ?_
  refine zz_get (ci := 3) (C := RX0) (T := TX0) (N := 7) (v := .int (G 0 f)) hx hb hts hown hK (zx_fl hZ.W (f := f) hf).1 rfl zf_X0 4 (by decide) zw_341 (fun _ h9 => h9) rfl dX0_discomfortOfOnePerson_1 ?_
  refine lv_sipush (v := nI 215) hx hb dX0_discomfortOfOnePerson_4 (by decide) ?_
  refine lv_isub hx hb dX0_discomfortOfOnePerson_7 ?_
  refine va_mabs hx hb (by rw [hml]; exact hl.1.symm) hown (hts _ zw_182) (hts _ zw_183) (hts _ zw_13) (hts _ zw_184) (Nat.le_of_ble_eq_true rfl) (Nat.le_of_ble_eq_true rfl) (Nat.le_of_ble_eq_true rfl) (Nat.le_of_ble_eq_true rfl) dX0_discomfortOfOnePerson_8 ?_
  refine lv_bipush (v := nI 10) hx hb dX0_discomfortOfOnePerson_11 (by decide) ?_
  refine lv_idiv hx hb dX0_discomfortOfOnePerson_13 (by decide) ?_
  refine lv_istore_n (lv' := [(1, .int ((if 0 ≤ ((G 0 f) - (nI 215)) then (G 0 f) - (nI 215) else 0 - ((G 0 f) - (nI 215))) / (nI 10))), (0, .ref (ad 3 f))]) hx hb dX0_discomfortOfOnePerson_14 rfl hl (Nat.le_of_ble_eq_true rfl) rfl (fun ls hl => ?_)
  refine lv_aload_n hx hb dX0_discomfortOfOnePerson_15 rfl (lv_at hl 1 rfl) ?_
  refine zz_get (ci := 3) (C := RX0) (T := TX0) (N := 7) (v := .int (G 1 f)) hx hb hts hown hK (zx_fl hZ.W (f := f) hf).1 rfl zf_X0 5 (by decide) zw_343 (fun _ h9 => h9) rfl dX0_discomfortOfOnePerson_16 ?_
  refine lv_sipush (v := nI 500) hx hb dX0_discomfortOfOnePerson_19 (by decide) ?_
  refine lv_icmp_le (tgt := 31) hx hb dX0_discomfortOfOnePerson_22 (by decide) (fun c_1 => ?_) (fun c_1 => ?_)
  · skip
    refine lv_iload_n hx hb dX0_discomfortOfOnePerson_31 rfl (lv_at hl 0 rfl) ?_
    refine zz_iret hx hb hr hlocks hS (Nat.le_of_ble_eq_true rfl) (Nat.le_of_ble_eq_true rfl) dX0_discomfortOfOnePerson_32 ?_
    first | rfl | (simp [zw_one, c_1]; done) | (simp [c_1]; done) | (simp_all; done) | (split <;> first | rfl | omega | (simp_all; done); done)
  · skip
    refine lv_iload_n hx hb dX0_discomfortOfOnePerson_25 rfl (lv_at hl 0 rfl) ?_
    refine zz_con 1 hx hb dX0_discomfortOfOnePerson_26 (by decide) ?_
    refine lv_iadd hx hb dX0_discomfortOfOnePerson_27 ?_
    refine lv_goto (tgt := 32) hx hb dX0_discomfortOfOnePerson_28 (by decide) ?_
    refine zz_iret hx hb hr hlocks hS (Nat.le_of_ble_eq_true rfl) (Nat.le_of_ble_eq_true rfl) dX0_discomfortOfOnePerson_32 ?_
    first | rfl | (simp [zw_one, c_1]; done) | (simp [c_1]; done) | (simp_all; done) | (split <;> first | rfl | omega | (simp_all; done); done)

set_option maxHeartbeats 4000000 in
set_option maxRecDepth 100000 in
theorem c_X1_isNoShow (l : Launch) {K : zz_G} {A : Nat → Prop} {ad : Nat → Nat → Nat} {E : Nat → Nat → Int32} {cap : Nat → Nat} {N : Nat → Nat → Nat} {G : Nat → Nat → Int32} {L : Nat → Int64} (hI : zq N) {q : Nat} (hq : q < N 0 1) : zz_C l yX1_isNoShow cX1_isNoShow 1 (Option.some FieldType.boolean) ({ frames := 0, cells := 0, slots := 0, locals := 0 } : Room) K A [.ref (ad 5 q)] (fun H => zz_W K A ad (zx_c K ad E cap N G L) H) (fun v9 _ _ => v9 = some (.int (zz_bo (N 6 q ≠ 0 ∧ N 8 q = 0)))) zz_nx zz_no := by
  refine zz_body (by decide +kernel) (Nat.le_of_ble_eq_true rfl) ?_
  intro p e s m below meth c ls hx hb hr hml hts hown hlocks hmn htab hE hA hP hl
  have hN := hE.N
  have hK := hE.K
  have hown : s.vm.findClass RX1 = some m.cls := hown
  have hl : lv_has ls 1 [(0, .ref (ad 5 q))] := hl
  have hZ : zz_Z K A s ad (zx_c K ad E cap N G L) s.heap := ⟨hE, hA, hP⟩
  have hS : va_S zz_no s.heap s.heap [] := va_S.rf
  obtain ⟨H, hH⟩ : ∃ z, z = s.heap := ⟨_, rfl⟩
  have hS0 : va_S zz_no s.heap H [] := by rw [hH]; exact hS
  rw [← hH] at hZ
  have hE0 := hE
  clear hS
  have hS := hS0
  have hB := hI.B
  have h00 := hI.f
  have h01 := hI.p
  have h02 := hI.b
  show W p l e _ s m _ below meth c s.heap [] 0 0 _ (F0 m 0 ls [])
  rw [← hH]
  refine lv_aload_n hx hb dX1_isNoShow_0 rfl (lv_at hl 0 rfl) ?_
  rcases (show N 6 q = 0 ∨ ∃ z, N 6 q = z + 1 by cases (N 6 q) with | zero => exact Or.inl rfl | succ z => exact Or.inr ⟨z, rfl⟩) with h_1 | ⟨j_2, h_1⟩
  · skip
    refine zz_get (ci := 4) (C := RX1) (T := TX1) (N := 7) (v := .null) hx hb hts hown hK (zx_pe hZ.W (q := q) hq).1 rfl zf_X1 4 (by decide) zw_492 (fun _ h9 => h9) (congrArg (fun x => some (zz_rf (ad 3) x)) h_1) dX1_isNoShow_1 ?_
    refine lv_ifnullN (tgt := 18) hx hb dX1_isNoShow_4 (by decide) ?_
    refine zz_con 0 hx hb dX1_isNoShow_18 (by decide) ?_
    refine zz_zret hx hb hr hlocks hS (Nat.le_of_ble_eq_true rfl) (Nat.le_of_ble_eq_true rfl) dX1_isNoShow_19 (show nI 0 = 0 ∨ nI 0 = 1 by decide) ?_
    refine congrArg (fun z => some (Value.int z)) (zz_bo_f ?_).symm
    first | assumption | omega | (simp_all; done) | (simp [h_1]; done) | (simp_all; done) | (split <;> first | rfl | omega | (simp_all; done); done)
  · skip
    have hj_3 : j_2 < N 0 0 := by have := hI.st q hq; omega
    refine zz_get (ci := 4) (C := RX1) (T := TX1) (N := 7) (v := .ref (ad 3 j_2)) hx hb hts hown hK (zx_pe hZ.W (q := q) hq).1 rfl zf_X1 4 (by decide) zw_492 (fun _ h9 => h9) (congrArg (fun x => some (zz_rf (ad 3) x)) h_1) dX1_isNoShow_1 ?_
    refine lv_ifnull hx hb dX1_isNoShow_4 ?_
    refine lv_aload_n hx hb dX1_isNoShow_7 rfl (lv_at hl 0 rfl) ?_
    refine zz_get (ci := 4) (C := RX1) (T := TX1) (N := 7) (v := .int (nI (N 8 q))) hx hb hts hown hK (zx_pe hZ.W (q := q) hq).1 rfl zf_X1 6 (by decide) zw_496 (fun _ h9 => h9) rfl dX1_isNoShow_8 ?_
    refine zz_if_ne (tgt := 18) (by first | exact hB _ _ | exact hUa _ | exact hUb _ | exact hUc _ | exact hUd _ | omega) hx hb dX1_isNoShow_11 (by decide) (fun c_4 => ?_) (fun c_4 => ?_)
    · skip
      refine zz_con 0 hx hb dX1_isNoShow_18 (by decide) ?_
      refine zz_zret hx hb hr hlocks hS (Nat.le_of_ble_eq_true rfl) (Nat.le_of_ble_eq_true rfl) dX1_isNoShow_19 (show nI 0 = 0 ∨ nI 0 = 1 by decide) ?_
      refine congrArg (fun z => some (Value.int z)) (zz_bo_f ?_).symm
      first | assumption | omega | (simp_all; done) | (simp [h_1, c_4]; done) | (simp_all; done) | (split <;> first | rfl | omega | (simp_all; done); done)
    · skip
      refine zz_con 1 hx hb dX1_isNoShow_14 (by decide) ?_
      refine lv_goto (tgt := 19) hx hb dX1_isNoShow_15 (by decide) ?_
      refine zz_zret hx hb hr hlocks hS (Nat.le_of_ble_eq_true rfl) (Nat.le_of_ble_eq_true rfl) dX1_isNoShow_19 (show nI 1 = 0 ∨ nI 1 = 1 by decide) ?_
      refine congrArg (fun z => some (Value.int z)) (zz_bo_t ?_).symm
      first | assumption | omega | (simp_all; done) | (simp [h_1, c_4]; done) | (simp_all; done) | (split <;> first | rfl | omega | (simp_all; done); done)

set_option maxHeartbeats 4000000 in
set_option maxRecDepth 100000 in
theorem c_X1_judge (l : Launch) {K : zz_G} {A : Nat → Prop} {ad : Nat → Nat → Nat} {E : Nat → Nat → Int32} {cap : Nat → Nat} {N : Nat → Nat → Nat} {G : Nat → Nat → Int32} {L : Nat → Int64} (hI : zq N) {q : Nat} (hq : q < N 0 1) : zz_C l yX1_judge cX1_judge 2 (Option.none : Option Jvm.ClassFile.FieldType) ({ frames := 1, cells := 0, slots := 0, locals := 24 } : Room) K A [.ref (ad 5 q)] (fun H => zz_W K A ad (zx_c K ad E cap N G L) H) (fun v9 _ H9 => v9 = none ∧ zz_W K A ad (zx_c K ad E cap (zs_j1 N q) G L) H9) zz_nx A := by
  refine zz_body (by decide +kernel) (Nat.le_of_ble_eq_true rfl) ?_
  intro p e s m below meth c ls hx hb hr hml hts hown hlocks hmn htab hE hA hP hl
  have hN := hE.N
  have hK := hE.K
  have hown : s.vm.findClass RX1 = some m.cls := hown
  have hl : lv_has ls 2 [(0, .ref (ad 5 q))] := hl
  have hZ : zz_Z K A s ad (zx_c K ad E cap N G L) s.heap := ⟨hE, hA, hP⟩
  have hS : va_S zz_no s.heap s.heap [] := va_S.rf
  obtain ⟨H, hH⟩ : ∃ z, z = s.heap := ⟨_, rfl⟩
  have hS0 : va_S zz_no s.heap H [] := by rw [hH]; exact hS
  rw [← hH] at hZ
  have hE0 := hE
  clear hS
  have hS := hS0
  have hB := hI.B
  have h00 := hI.f
  have h01 := hI.p
  have h02 := hI.b
  have h5 := (hI.sm q).2.2.2.1
  show W p l e _ s m _ below meth c s.heap [] 0 0 _ (F0 m 0 ls [])
  rw [← hH]
  refine lv_aload_n hx hb dX1_judge_0 rfl (lv_at hl 0 rfl) ?_
  rcases (show N 6 q = 0 ∨ ∃ z, N 6 q = z + 1 by cases (N 6 q) with | zero => exact Or.inl rfl | succ z => exact Or.inr ⟨z, rfl⟩) with h_1 | ⟨j_2, h_1⟩
  · skip
    refine zz_get (ci := 4) (C := RX1) (T := TX1) (N := 7) (v := .null) hx hb hts hown hK (zx_pe hZ.W (q := q) hq).1 rfl zf_X1 4 (by decide) zw_492 (fun _ h9 => h9) (congrArg (fun x => some (zz_rf (ad 3) x)) h_1) dX1_judge_1 ?_
    refine lv_ifnonnullN hx hb dX1_judge_4 ?_
    have hS : va_S A s.heap H _ := zz_Smono hS (fun _ h => h.elim)
    refine zz_vret hx hb hr hlocks hS (Nat.le_of_ble_eq_true rfl) (Nat.le_of_ble_eq_true rfl) dX1_judge_7 ?_
    refine ⟨?_, ?_⟩
    · skip
      first | rfl | (simp [zs_j1, h_1]; done) | (simp [h_1]; done) | (simp_all; done) | (split <;> first | rfl | omega | (simp_all; done); done)
    · first | exact hZ.W | (refine zx_co ?_ ?_ ?_ ?_ hZ.W <;> first | rfl | (simp [zs_j1, h_1]; done) | (simp [h_1]; done) | (simp_all; done) | (split <;> first | rfl | omega | (simp_all; done); done))
  · skip
    have hj_3 : j_2 < N 0 0 := by have := hI.st q hq; omega
    refine zz_get (ci := 4) (C := RX1) (T := TX1) (N := 7) (v := .ref (ad 3 j_2)) hx hb hts hown hK (zx_pe hZ.W (q := q) hq).1 rfl zf_X1 4 (by decide) zw_492 (fun _ h9 => h9) (congrArg (fun x => some (zz_rf (ad 3) x)) h_1) dX1_judge_1 ?_
    refine lv_ifnonnull (tgt := 8) hx hb dX1_judge_4 (by decide) ?_
    refine lv_aload_n hx hb dX1_judge_8 rfl (lv_at hl 0 rfl) ?_
    refine zz_get (ci := 4) (C := RX1) (T := TX1) (N := 7) (v := .int (nI (N 8 q))) hx hb hts hown hK (zx_pe hZ.W (q := q) hq).1 rfl zf_X1 6 (by decide) zw_496 (fun _ h9 => h9) rfl dX1_judge_9 ?_
    refine zz_if_eq (tgt := 24) (by first | exact hB _ _ | exact hUa _ | exact hUb _ | exact hUc _ | exact hUd _ | omega) hx hb dX1_judge_12 (by decide) (fun c_4 => ?_) (fun c_4 => ?_)
    · skip
      refine lv_aload_n hx hb dX1_judge_24 rfl (lv_at hl 0 rfl) ?_
      refine zz_get (ci := 4) (C := RX1) (T := TX1) (N := 7) (v := .int (nI (N 5 q))) hx hb hts hown hK (zx_pe hZ.W (q := q) hq).1 rfl zf_X1 2 (by decide) zw_488 (fun _ h9 => h9) rfl dX1_judge_25 ?_
      refine zz_con 1 hx hb dX1_judge_28 (by decide) ?_
      refine lv_isub hx hb dX1_judge_29 ?_
      refine lv_istore_n (lv' := [(1, .int ((nI (N 5 q)) - (nI 1))), (0, .ref (ad 5 q))]) hx hb dX1_judge_30 rfl hl (Nat.le_of_ble_eq_true rfl) rfl (fun ls hl => ?_)
      refine lv_aload_n hx hb dX1_judge_31 rfl (lv_at hl 1 rfl) ?_
      refine zz_con 0 hx hb dX1_judge_32 (by decide) ?_
      refine lv_iload_n hx hb dX1_judge_33 rfl (lv_at hl 0 rfl) ?_
      refine lv_bipush (v := nI 10) hx hb dX1_judge_34 (by decide) ?_
      refine va_mmin hx hb (by rw [hml]; exact hl.1.symm) hown (hts _ zw_628) (hts _ zw_131) (hts _ zw_13) (hts _ zw_132) (Nat.le_of_ble_eq_true rfl) (Nat.le_of_ble_eq_true rfl) (Nat.le_of_ble_eq_true rfl) (Nat.le_of_ble_eq_true rfl) dX1_judge_36 ?_
      refine va_mmax hx hb (by rw [hml]; exact hl.1.symm) hown (hts _ zw_629) (hts _ zw_382) (hts _ zw_13) (hts _ zw_383) (Nat.le_of_ble_eq_true rfl) (Nat.le_of_ble_eq_true rfl) (Nat.le_of_ble_eq_true rfl) (Nat.le_of_ble_eq_true rfl) dX1_judge_39 ?_
      rw [zz_dn h5]
      have hS : va_S A s.heap H _ := zz_Smono hS (fun _ h => h.elim)
      have haA_8 := (zx_pe hZ.W (q := q) hq).2
      refine zz_put (ci := 4) (C := RX1) (T := TX1) (N := 7) (v := .int (nI (N 5 q - 1))) (ty1 := .int) hx hb hts hown hK hS (zx_pe hZ.W (q := q) hq).1 haA_8 rfl zf_X1 tyX1_ok nmX1 2 (by decide) zw_488 (fun _ h9 => h9) rfl (by decide +kernel) rfl rfl (Nat.le_of_ble_eq_true rfl) dX1_judge_42 (fun H locs ha_6 hz_7 ho_5 hS => ?_)
      have hZ : zz_Z K A s ad (zx_c K ad E cap (zu N 5 q (N 5 q - 1)) G L) H := hZ.put haA_8 hz_7 ho_5 (zx_put_standing hZ.W hq ha_6 ho_5)
      refine zz_vret hx hb hr hlocks hS (Nat.le_of_ble_eq_true rfl) (Nat.le_of_ble_eq_true rfl) dX1_judge_45 ?_
      refine ⟨?_, ?_⟩
      · skip
        first | rfl | (simp [zs_j1, h_1, c_4]; done) | (simp [h_1, c_4]; done) | (simp_all; done) | (split <;> first | rfl | omega | (simp_all; done); done)
      · first | exact hZ.W | (refine zx_co ?_ ?_ ?_ ?_ hZ.W <;> first | rfl | (simp [zs_j1, h_1, c_4]; done) | (simp [h_1, c_4]; done) | (simp_all; done) | (split <;> first | rfl | omega | (simp_all; done); done))
    · skip
      refine lv_aload_n hx hb dX1_judge_15 rfl (lv_at hl 0 rfl) ?_
      refine zz_get (ci := 4) (C := RX1) (T := TX1) (N := 7) (v := .int (nI (N 5 q))) hx hb hts hown hK (zx_pe hZ.W (q := q) hq).1 rfl zf_X1 2 (by decide) zw_488 (fun _ h9 => h9) rfl dX1_judge_16 ?_
      refine zz_con 1 hx hb dX1_judge_19 (by decide) ?_
      refine zz_add hx hb dX1_judge_20 ?_
      refine lv_goto (tgt := 30) hx hb dX1_judge_21 (by decide) ?_
      refine lv_istore_n (lv' := [(1, .int (nI ((N 5 q) + 1))), (0, .ref (ad 5 q))]) hx hb dX1_judge_30 rfl hl (Nat.le_of_ble_eq_true rfl) rfl (fun ls hl => ?_)
      refine lv_aload_n hx hb dX1_judge_31 rfl (lv_at hl 1 rfl) ?_
      refine zz_con 0 hx hb dX1_judge_32 (by decide) ?_
      refine lv_iload_n hx hb dX1_judge_33 rfl (lv_at hl 0 rfl) ?_
      refine lv_bipush (v := nI 10) hx hb dX1_judge_34 (by decide) ?_
      refine va_mmin hx hb (by rw [hml]; exact hl.1.symm) hown (hts _ zw_628) (hts _ zw_131) (hts _ zw_13) (hts _ zw_132) (Nat.le_of_ble_eq_true rfl) (Nat.le_of_ble_eq_true rfl) (Nat.le_of_ble_eq_true rfl) (Nat.le_of_ble_eq_true rfl) dX1_judge_36 ?_
      refine va_mmax hx hb (by rw [hml]; exact hl.1.symm) hown (hts _ zw_629) (hts _ zw_382) (hts _ zw_13) (hts _ zw_383) (Nat.le_of_ble_eq_true rfl) (Nat.le_of_ble_eq_true rfl) (Nat.le_of_ble_eq_true rfl) (Nat.le_of_ble_eq_true rfl) dX1_judge_39 ?_
      rw [zz_upst h5]
      have hS : va_S A s.heap H _ := zz_Smono hS (fun _ h => h.elim)
      have haA_12 := (zx_pe hZ.W (q := q) hq).2
      refine zz_put (ci := 4) (C := RX1) (T := TX1) (N := 7) (v := .int (nI (min (N 5 q + 1) 10))) (ty1 := .int) hx hb hts hown hK hS (zx_pe hZ.W (q := q) hq).1 haA_12 rfl zf_X1 tyX1_ok nmX1 2 (by decide) zw_488 (fun _ h9 => h9) rfl (by decide +kernel) rfl rfl (Nat.le_of_ble_eq_true rfl) dX1_judge_42 (fun H locs ha_10 hz_11 ho_9 hS => ?_)
      have hZ : zz_Z K A s ad (zx_c K ad E cap (zu N 5 q (min (N 5 q + 1) 10)) G L) H := hZ.put haA_12 hz_11 ho_9 (zx_put_standing hZ.W hq ha_10 ho_9)
      refine zz_vret hx hb hr hlocks hS (Nat.le_of_ble_eq_true rfl) (Nat.le_of_ble_eq_true rfl) dX1_judge_45 ?_
      refine ⟨?_, ?_⟩
      · skip
        first | rfl | (simp [zs_j1, h_1, c_4]; done) | (simp [h_1, c_4]; done) | (simp_all; done) | (split <;> first | rfl | omega | (simp_all; done); done)
      · first | exact hZ.W | (refine zx_co ?_ ?_ ?_ ?_ hZ.W <;> first | rfl | (simp [zs_j1, h_1, c_4]; done) | (simp [h_1, c_4]; done) | (simp_all; done) | (split <;> first | rfl | omega | (simp_all; done); done))

set_option maxHeartbeats 4000000 in
set_option maxRecDepth 100000 in
theorem c_X1_goHome (l : Launch) {K : zz_G} {A : Nat → Prop} {ad : Nat → Nat → Nat} {E : Nat → Nat → Int32} {cap : Nat → Nat} {N : Nat → Nat → Nat} {G : Nat → Nat → Int32} {L : Nat → Int64} (hI : zq N) {q : Nat} (hq : q < N 0 1) : zz_C l yX1_goHome cX1_goHome 1 (Option.none : Option Jvm.ClassFile.FieldType) ({ frames := 0, cells := 0, slots := 0, locals := 0 } : Room) K A [.ref (ad 5 q)] (fun H => zz_W K A ad (zx_c K ad E cap N G L) H) (fun v9 _ H9 => v9 = none ∧ zz_W K A ad (zx_c K ad E cap (zu (zu (zu N 6 q 0) 7 q 0) 8 q 0) G L) H9) zz_nx A := by
  refine zz_body (by decide +kernel) (Nat.le_of_ble_eq_true rfl) ?_
  intro p e s m below meth c ls hx hb hr hml hts hown hlocks hmn htab hE hA hP hl
  have hN := hE.N
  have hK := hE.K
  have hown : s.vm.findClass RX1 = some m.cls := hown
  have hl : lv_has ls 1 [(0, .ref (ad 5 q))] := hl
  have hZ : zz_Z K A s ad (zx_c K ad E cap N G L) s.heap := ⟨hE, hA, hP⟩
  have hS : va_S zz_no s.heap s.heap [] := va_S.rf
  obtain ⟨H, hH⟩ : ∃ z, z = s.heap := ⟨_, rfl⟩
  have hS0 : va_S zz_no s.heap H [] := by rw [hH]; exact hS
  rw [← hH] at hZ
  have hE0 := hE
  clear hS
  have hS := hS0
  have hB := hI.B
  have h00 := hI.f
  have h01 := hI.p
  have h02 := hI.b
  show W p l e _ s m _ below meth c s.heap [] 0 0 _ (F0 m 0 ls [])
  rw [← hH]
  refine lv_aload_n hx hb dX1_goHome_0 rfl (lv_at hl 0 rfl) ?_
  refine lv_null hx hb dX1_goHome_1 ?_
  have hS : va_S A s.heap H _ := zz_Smono hS (fun _ h => h.elim)
  have haA_4 := (zx_pe hZ.W (q := q) hq).2
  refine zz_put (ci := 4) (C := RX1) (T := TX1) (N := 7) (v := .null) (ty1 := .object "OpenFloors$Floor") hx hb hts hown hK hS (zx_pe hZ.W (q := q) hq).1 haA_4 rfl zf_X1 tyX1_ok nmX1 4 (by decide) zw_492 (fun _ h9 => h9) rfl (by decide +kernel) rfl rfl (Nat.le_of_ble_eq_true rfl) dX1_goHome_2 (fun H locs ha_2 hz_3 ho_1 hS => ?_)
  have hZ : zz_Z K A s ad (zx_c K ad E cap (zu N 6 q 0) G L) H := hZ.put haA_4 hz_3 ho_1 (zx_put_seat hZ.W hq ha_2 ho_1)
  refine lv_aload_n hx hb dX1_goHome_5 rfl (lv_at hl 0 rfl) ?_
  refine zz_con 0 hx hb dX1_goHome_6 (by decide) ?_
  have haA_8 := (zx_pe hZ.W (q := q) hq).2
  refine zz_put (ci := 4) (C := RX1) (T := TX1) (N := 7) (v := .int (nI 0)) (ty1 := .boolean) hx hb hts hown hK hS (zx_pe hZ.W (q := q) hq).1 haA_8 rfl zf_X1 tyX1_ok nmX1 5 (by decide) zw_494 (fun _ h9 => h9) rfl (by decide +kernel) (by rcases (show nI 0 = 0 ∨ nI 0 = 1 by decide) with h | h <;> rw [h] <;> rfl) (by rcases (show nI 0 = 0 ∨ nI 0 = 1 by decide) with h | h <;> rw [h] <;> rfl) (Nat.le_of_ble_eq_true rfl) dX1_goHome_7 (fun H locs ha_6 hz_7 ho_5 hS => ?_)
  have hZ : zz_Z K A s ad (zx_c K ad E cap (zu (zu N 6 q 0) 7 q 0) G L) H := hZ.put haA_8 hz_7 ho_5 (zx_put_in hZ.W hq ha_6 ho_5)
  refine lv_aload_n hx hb dX1_goHome_10 rfl (lv_at hl 0 rfl) ?_
  refine zz_con 0 hx hb dX1_goHome_11 (by decide) ?_
  have haA_12 := (zx_pe hZ.W (q := q) hq).2
  refine zz_put (ci := 4) (C := RX1) (T := TX1) (N := 7) (v := .int (nI 0)) (ty1 := .boolean) hx hb hts hown hK hS (zx_pe hZ.W (q := q) hq).1 haA_12 rfl zf_X1 tyX1_ok nmX1 6 (by decide) zw_496 (fun _ h9 => h9) rfl (by decide +kernel) (by rcases (show nI 0 = 0 ∨ nI 0 = 1 by decide) with h | h <;> rw [h] <;> rfl) (by rcases (show nI 0 = 0 ∨ nI 0 = 1 by decide) with h | h <;> rw [h] <;> rfl) (Nat.le_of_ble_eq_true rfl) dX1_goHome_12 (fun H locs ha_10 hz_11 ho_9 hS => ?_)
  have hZ : zz_Z K A s ad (zx_c K ad E cap (zu (zu (zu N 6 q 0) 7 q 0) 8 q 0) G L) H := hZ.put haA_12 hz_11 ho_9 (zx_put_came hZ.W hq ha_10 ho_9)
  refine zz_vret hx hb hr hlocks hS (Nat.le_of_ble_eq_true rfl) (Nat.le_of_ble_eq_true rfl) dX1_goHome_15 ?_
  refine ⟨?_, ?_⟩
  · skip
    first | rfl | (simp []; done) | (simp_all; done) | (split <;> first | rfl | omega | (simp_all; done); done)
  · first | exact hZ.W | (refine zx_co ?_ ?_ ?_ ?_ hZ.W <;> first | rfl | (simp []; done) | (simp_all; done) | (split <;> first | rfl | omega | (simp_all; done); done))
