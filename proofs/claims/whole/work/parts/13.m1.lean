/-! by program (gen.py): contracts of methods -/
theorem zd_X3_fails : yX3_fails.cls ≠ "java/lang/invoke/MethodHandle" ∧ yX3_fails.cls ≠ "java/lang/invoke/VarHandle" ∧ (parseMethodDescriptor yX3_fails.desc).map (fun d => d.parameters.length) = some 1 := by decide +kernel
theorem zd_X3_in : yX3_in.cls ≠ "java/lang/invoke/MethodHandle" ∧ yX3_in.cls ≠ "java/lang/invoke/VarHandle" ∧ (parseMethodDescriptor yX3_in.desc).map (fun d => d.parameters.length) = some 3 := by decide +kernel
theorem zd_X3_isFloor : yX3_isFloor.cls ≠ "java/lang/invoke/MethodHandle" ∧ yX3_isFloor.cls ≠ "java/lang/invoke/VarHandle" ∧ (parseMethodDescriptor yX3_isFloor.desc).map (fun d => d.parameters.length) = some 1 := by decide +kernel
theorem zd_X3_isPerson : yX3_isPerson.cls ≠ "java/lang/invoke/MethodHandle" ∧ yX3_isPerson.cls ≠ "java/lang/invoke/VarHandle" ∧ (parseMethodDescriptor yX3_isPerson.desc).map (fun d => d.parameters.length) = some 1 := by decide +kernel
theorem zd_X3_tells : yX3_tells.cls ≠ "java/lang/invoke/MethodHandle" ∧ yX3_tells.cls ≠ "java/lang/invoke/VarHandle" ∧ (parseMethodDescriptor yX3_tells.desc).map (fun d => d.parameters.length) = some 1 := by decide +kernel
set_option maxHeartbeats 4000000 in
set_option maxRecDepth 100000 in
theorem c_X3_in (l : Launch) {K : zz_G} {A : Nat → Prop} (v lo hi : Int32) : zz_C l yX3_in cX3_in 3 (Option.some FieldType.boolean) ({ frames := 0, cells := 0, slots := 0, locals := 0 } : Room) K A [.int v, .int lo, .int hi] (fun _ => True) (fun v9 _ _ => v9 = some (.int (zz_bo (lo ≤ v ∧ v ≤ hi)))) zz_nx zz_no := by
  refine zz_body (by decide +kernel) (Nat.le_of_ble_eq_true rfl) ?_
  intro p e s m below meth c ls hx hb hr hml hts hown hlocks hmn htab hE hA hP hl
  have hN := hE.N
  have hK := hE.K
  have hown : s.vm.findClass RX3 = some m.cls := hown
  have hl : lv_has ls 3 [(0, .int v), (1, .int lo), (2, .int hi)] := hl
  have hS : va_S zz_no s.heap s.heap [] := va_S.rf
  obtain ⟨H, hH⟩ : ∃ z, z = s.heap := ⟨_, rfl⟩
  have hS0 : va_S zz_no s.heap H [] := by rw [hH]; exact hS
  rw [← hH] at hE hA
  have hE0 := hE
  clear hS
  have hS := hS0
  show W p l e _ s m _ below meth c s.heap [] 0 0 _ (F0 m 0 ls [])
  rw [← hH]
  refine lv_iload_n hx hb dX3_in_0 rfl (lv_at hl 0 rfl) ?_
  refine lv_iload_n hx hb dX3_in_1 rfl (lv_at hl 1 rfl) ?_
  refine lv_icmp_lt (tgt := 14) hx hb dX3_in_2 (by decide) (fun c_1 => ?_) (fun c_1 => ?_)
  · skip
    refine zz_con 0 hx hb dX3_in_14 (by decide) ?_
    refine zz_zret hx hb hr hlocks hS (Nat.le_of_ble_eq_true rfl) (Nat.le_of_ble_eq_true rfl) dX3_in_15 (show nI 0 = 0 ∨ nI 0 = 1 by decide) ?_
    refine congrArg (fun z => some (Value.int z)) (zz_bo_f ?_).symm
    first | assumption | omega | (exact ⟨Int32.not_lt.mp (by assumption), Int32.not_lt.mp (by assumption)⟩; done) | (exact fun h => absurd h.1 (Int32.not_le.mpr (by assumption)); done) | (exact fun h => absurd h.2 (Int32.not_le.mpr (by assumption)); done) | (simp [c_1]; done) | (simp_all; done) | (split <;> first | rfl | omega | (simp_all; done); done)
  · skip
    refine lv_iload_n hx hb dX3_in_5 rfl (lv_at hl 0 rfl) ?_
    refine lv_iload_n hx hb dX3_in_6 rfl (lv_at hl 2 rfl) ?_
    refine lv_icmp_gt (tgt := 14) hx hb dX3_in_7 (by decide) (fun c_2 => ?_) (fun c_2 => ?_)
    · skip
      refine zz_con 0 hx hb dX3_in_14 (by decide) ?_
      refine zz_zret hx hb hr hlocks hS (Nat.le_of_ble_eq_true rfl) (Nat.le_of_ble_eq_true rfl) dX3_in_15 (show nI 0 = 0 ∨ nI 0 = 1 by decide) ?_
      refine congrArg (fun z => some (Value.int z)) (zz_bo_f ?_).symm
      first | assumption | omega | (exact ⟨Int32.not_lt.mp (by assumption), Int32.not_lt.mp (by assumption)⟩; done) | (exact fun h => absurd h.1 (Int32.not_le.mpr (by assumption)); done) | (exact fun h => absurd h.2 (Int32.not_le.mpr (by assumption)); done) | (simp [c_1, c_2]; done) | (simp_all; done) | (split <;> first | rfl | omega | (simp_all; done); done)
    · skip
      refine zz_con 1 hx hb dX3_in_10 (by decide) ?_
      refine lv_goto (tgt := 15) hx hb dX3_in_11 (by decide) ?_
      refine zz_zret hx hb hr hlocks hS (Nat.le_of_ble_eq_true rfl) (Nat.le_of_ble_eq_true rfl) dX3_in_15 (show nI 1 = 0 ∨ nI 1 = 1 by decide) ?_
      refine congrArg (fun z => some (Value.int z)) (zz_bo_t ?_).symm
      first | assumption | omega | (exact ⟨Int32.not_lt.mp (by assumption), Int32.not_lt.mp (by assumption)⟩; done) | (exact fun h => absurd h.1 (Int32.not_le.mpr (by assumption)); done) | (exact fun h => absurd h.2 (Int32.not_le.mpr (by assumption)); done) | (simp [c_1, c_2]; done) | (simp_all; done) | (split <;> first | rfl | omega | (simp_all; done); done)

set_option maxHeartbeats 4000000 in
set_option maxRecDepth 100000 in
theorem c_X3_thrown (l : Launch) {K : zz_G} {A : Nat → Prop} {ad : Nat → Nat → Nat} {th : Int32} {N : Nat → Nat → Nat} {G : Nat → Nat → Int32} {L : Nat → Int64}  : zz_C l yX3_thrown cX3_thrown 1 (Option.some FieldType.int) ({ frames := 0, cells := 0, slots := 0, locals := 0 } : Room) K A [.ref (ad 0 0)] (fun H => zz_W K A ad (zm_c K ad th N G L) H) (fun v9 _ _ => v9 = some (.int th)) zz_nx zz_no := by
  refine zz_body (by decide +kernel) (Nat.le_of_ble_eq_true rfl) ?_
  intro p e s m below meth c ls hx hb hr hml hts hown hlocks hmn htab hE hA hP hl
  have hN := hE.N
  have hK := hE.K
  have hown : s.vm.findClass RX3 = some m.cls := hown
  have hl : lv_has ls 1 [(0, .ref (ad 0 0))] := hl
  have hZ : zz_Z K A s ad (zm_c K ad th N G L) s.heap := ⟨hE, hA, hP⟩
  have hS : va_S zz_no s.heap s.heap [] := va_S.rf
  obtain ⟨H, hH⟩ : ∃ z, z = s.heap := ⟨_, rfl⟩
  have hS0 : va_S zz_no s.heap H [] := by rw [hH]; exact hS
  rw [← hH] at hZ
  have hE0 := hE
  clear hS
  have hS := hS0
  show W p l e _ s m _ below meth c s.heap [] 0 0 _ (F0 m 0 ls [])
  rw [← hH]
  refine lv_aload_n hx hb dX3_thrown_0 rfl (lv_at hl 0 rfl) ?_
  refine zz_get (ci := 6) (C := RX3) (T := TX3) (N := 22) (v := .int th) hx hb hts hown hK (zm_ob hZ.W).1 rfl zf_X3 0 (by decide) zw_808 (fun _ h9 => h9) rfl dX3_thrown_1 ?_
  refine zz_iret hx hb hr hlocks hS (Nat.le_of_ble_eq_true rfl) (Nat.le_of_ble_eq_true rfl) dX3_thrown_4 ?_
  first | rfl | (simp []; done) | (simp_all; done) | (split <;> first | rfl | omega | (simp_all; done); done)

set_option maxHeartbeats 4000000 in
set_option maxRecDepth 100000 in
theorem c_X3_fails (l : Launch) {K : zz_G} {A : Nat → Prop} {ad : Nat → Nat → Nat} {th : Int32} {N : Nat → Nat → Nat} {G : Nat → Nat → Int32} {L : Nat → Int64} (v : Int32) : zz_C l yX3_fails cX3_fails 2 (Option.some FieldType.int) ({ frames := 0, cells := 0, slots := 0, locals := 0 } : Room) K A [.ref (ad 0 0), .int v] (fun H => zz_W K A ad (zm_c K ad th N G L) H) (fun v9 _ H9 => v9 = some (.int (nI 0)) ∧ zz_W K A ad (zm_c K ad v N G L) H9) zz_nx A := by
  refine zz_body (by decide +kernel) (Nat.le_of_ble_eq_true rfl) ?_
  intro p e s m below meth c ls hx hb hr hml hts hown hlocks hmn htab hE hA hP hl
  have hN := hE.N
  have hK := hE.K
  have hown : s.vm.findClass RX3 = some m.cls := hown
  have hl : lv_has ls 2 [(0, .ref (ad 0 0)), (1, .int v)] := hl
  have hZ : zz_Z K A s ad (zm_c K ad th N G L) s.heap := ⟨hE, hA, hP⟩
  have hS : va_S zz_no s.heap s.heap [] := va_S.rf
  obtain ⟨H, hH⟩ : ∃ z, z = s.heap := ⟨_, rfl⟩
  have hS0 : va_S zz_no s.heap H [] := by rw [hH]; exact hS
  rw [← hH] at hZ
  have hE0 := hE
  clear hS
  have hS := hS0
  show W p l e _ s m _ below meth c s.heap [] 0 0 _ (F0 m 0 ls [])
  rw [← hH]
  refine lv_aload_n hx hb dX3_fails_0 rfl (lv_at hl 0 rfl) ?_
  refine lv_iload_n hx hb dX3_fails_1 rfl (lv_at hl 1 rfl) ?_
  have hS : va_S A s.heap H _ := zz_Smono hS (fun _ h => h.elim)
  have haA_4 := (zm_ob hZ.W).2
  refine zz_put (ci := 6) (C := RX3) (T := TX3) (N := 22) (v := .int v) (ty1 := .int) hx hb hts hown hK hS (zm_ob hZ.W).1 haA_4 rfl zf_X3 tyX3_ok nmX3 0 (by decide) zw_808 (fun _ h9 => h9) rfl (by decide +kernel) rfl rfl (Nat.le_of_ble_eq_true rfl) dX3_fails_2 (fun H locs ha_2 hz_3 ho_1 hS => ?_)
  have hZ : zz_Z K A s ad (zm_c K ad v N G L) H := hZ.put haA_4 hz_3 ho_1 (zm_put_thrown hZ.W ha_2 ho_1)
  refine zz_con 0 hx hb dX3_fails_5 (by decide) ?_
  refine zz_iret hx hb hr hlocks hS (Nat.le_of_ble_eq_true rfl) (Nat.le_of_ble_eq_true rfl) dX3_fails_6 ?_
  refine ⟨?_, ?_⟩
  · skip
    first | rfl | (simp []; done) | (simp_all; done) | (split <;> first | rfl | omega | (simp_all; done); done)
  · first | exact hZ.W | (refine zm_co ?_ ?_ ?_ ?_ hZ.W <;> first | rfl | (simp []; done) | (simp_all; done) | (split <;> first | rfl | omega | (simp_all; done); done))

set_option maxHeartbeats 4000000 in
set_option maxRecDepth 100000 in
theorem c_X3_tells (l : Launch) {K : zz_G} {A : Nat → Prop} {ad : Nat → Nat → Nat} {th : Int32} {N : Nat → Nat → Nat} {G : Nat → Nat → Int32} {L : Nat → Int64} (v : Int32) : zz_C l yX3_tells cX3_tells 2 (Option.some FieldType.int) ({ frames := 0, cells := 0, slots := 0, locals := 0 } : Room) K A [.ref (ad 0 0), .int v] (fun H => zz_W K A ad (zm_c K ad th N G L) H) (fun v9 _ H9 => v9 = some (.int v) ∧ zz_W K A ad (zm_c K ad (nI 0) N G L) H9) zz_nx A := by
  refine zz_body (by decide +kernel) (Nat.le_of_ble_eq_true rfl) ?_
  intro p e s m below meth c ls hx hb hr hml hts hown hlocks hmn htab hE hA hP hl
  have hN := hE.N
  have hK := hE.K
  have hown : s.vm.findClass RX3 = some m.cls := hown
  have hl : lv_has ls 2 [(0, .ref (ad 0 0)), (1, .int v)] := hl
  have hZ : zz_Z K A s ad (zm_c K ad th N G L) s.heap := ⟨hE, hA, hP⟩
  have hS : va_S zz_no s.heap s.heap [] := va_S.rf
  obtain ⟨H, hH⟩ : ∃ z, z = s.heap := ⟨_, rfl⟩
  have hS0 : va_S zz_no s.heap H [] := by rw [hH]; exact hS
  rw [← hH] at hZ
  have hE0 := hE
  clear hS
  have hS := hS0
  show W p l e _ s m _ below meth c s.heap [] 0 0 _ (F0 m 0 ls [])
  rw [← hH]
  refine lv_aload_n hx hb dX3_tells_0 rfl (lv_at hl 0 rfl) ?_
  refine zz_con 0 hx hb dX3_tells_1 (by decide) ?_
  have hS : va_S A s.heap H _ := zz_Smono hS (fun _ h => h.elim)
  have haA_4 := (zm_ob hZ.W).2
  refine zz_put (ci := 6) (C := RX3) (T := TX3) (N := 22) (v := .int (nI 0)) (ty1 := .int) hx hb hts hown hK hS (zm_ob hZ.W).1 haA_4 rfl zf_X3 tyX3_ok nmX3 0 (by decide) zw_808 (fun _ h9 => h9) rfl (by decide +kernel) rfl rfl (Nat.le_of_ble_eq_true rfl) dX3_tells_2 (fun H locs ha_2 hz_3 ho_1 hS => ?_)
  have hZ : zz_Z K A s ad (zm_c K ad (nI 0) N G L) H := hZ.put haA_4 hz_3 ho_1 (zm_put_thrown hZ.W ha_2 ho_1)
  refine lv_iload_n hx hb dX3_tells_5 rfl (lv_at hl 1 rfl) ?_
  refine zz_iret hx hb hr hlocks hS (Nat.le_of_ble_eq_true rfl) (Nat.le_of_ble_eq_true rfl) dX3_tells_6 ?_
  refine ⟨?_, ?_⟩
  · skip
    first | rfl | (simp []; done) | (simp_all; done) | (split <;> first | rfl | omega | (simp_all; done); done)
  · first | exact hZ.W | (refine zm_co ?_ ?_ ?_ ?_ hZ.W <;> first | rfl | (simp []; done) | (simp_all; done) | (split <;> first | rfl | omega | (simp_all; done); done))

set_option maxHeartbeats 4000000 in
set_option maxRecDepth 100000 in
theorem c_X3_tellsLong (l : Launch) {K : zz_G} {A : Nat → Prop} {ad : Nat → Nat → Nat} {th : Int32} {N : Nat → Nat → Nat} {G : Nat → Nat → Int32} {L : Nat → Int64} (v : Int64) : zz_C l yX3_tellsLong cX3_tellsLong 3 (Option.some FieldType.long) ({ frames := 0, cells := 0, slots := 0, locals := 0 } : Room) K A [.ref (ad 0 0), .long v] (fun H => zz_W K A ad (zm_c K ad th N G L) H) (fun v9 _ H9 => v9 = some (.long v) ∧ zz_W K A ad (zm_c K ad (nI 0) N G L) H9) zz_nx A := by
  refine zz_body (by decide +kernel) (Nat.le_of_ble_eq_true rfl) ?_
  intro p e s m below meth c ls hx hb hr hml hts hown hlocks hmn htab hE hA hP hl
  have hN := hE.N
  have hK := hE.K
  have hown : s.vm.findClass RX3 = some m.cls := hown
  have hl : lv_has ls 3 [(0, .ref (ad 0 0)), (1, .long v)] := hl
  have hZ : zz_Z K A s ad (zm_c K ad th N G L) s.heap := ⟨hE, hA, hP⟩
  have hS : va_S zz_no s.heap s.heap [] := va_S.rf
  obtain ⟨H, hH⟩ : ∃ z, z = s.heap := ⟨_, rfl⟩
  have hS0 : va_S zz_no s.heap H [] := by rw [hH]; exact hS
  rw [← hH] at hZ
  have hE0 := hE
  clear hS
  have hS := hS0
  show W p l e _ s m _ below meth c s.heap [] 0 0 _ (F0 m 0 ls [])
  rw [← hH]
  refine lv_aload_n hx hb dX3_tellsLong_0 rfl (lv_at hl 0 rfl) ?_
  refine zz_con 0 hx hb dX3_tellsLong_1 (by decide) ?_
  have hS : va_S A s.heap H _ := zz_Smono hS (fun _ h => h.elim)
  have haA_4 := (zm_ob hZ.W).2
  refine zz_put (ci := 6) (C := RX3) (T := TX3) (N := 22) (v := .int (nI 0)) (ty1 := .int) hx hb hts hown hK hS (zm_ob hZ.W).1 haA_4 rfl zf_X3 tyX3_ok nmX3 0 (by decide) zw_808 (fun _ h9 => h9) rfl (by decide +kernel) rfl rfl (Nat.le_of_ble_eq_true rfl) dX3_tellsLong_2 (fun H locs ha_2 hz_3 ho_1 hS => ?_)
  have hZ : zz_Z K A s ad (zm_c K ad (nI 0) N G L) H := hZ.put haA_4 hz_3 ho_1 (zm_put_thrown hZ.W ha_2 ho_1)
  refine lv_lload_n hx hb dX3_tellsLong_5 rfl (lv_at hl 1 rfl) ?_
  refine zz_lret hx hb hr hlocks hS (Nat.le_of_ble_eq_true rfl) (Nat.le_of_ble_eq_true rfl) dX3_tellsLong_6 ?_
  refine ⟨?_, ?_⟩
  · skip
    first | rfl | (simp []; done) | (simp_all; done) | (split <;> first | rfl | omega | (simp_all; done); done)
  · first | exact hZ.W | (refine zm_co ?_ ?_ ?_ ?_ hZ.W <;> first | rfl | (simp []; done) | (simp_all; done) | (split <;> first | rfl | omega | (simp_all; done); done))

set_option maxHeartbeats 4000000 in
set_option maxRecDepth 100000 in
theorem c_X3_asks (l : Launch) {K : zz_G} {A : Nat → Prop} {ad : Nat → Nat → Nat} {th : Int32} {N : Nat → Nat → Nat} {G : Nat → Nat → Int32} {L : Nat → Int64} (v : Int32) (P : Prop) [Decidable P] : zz_C l yX3_asks cX3_asks 3 (Option.some FieldType.boolean) ({ frames := 0, cells := 0, slots := 0, locals := 0 } : Room) K A [.ref (ad 0 0), .int v, .int (zz_bo P)] (fun H => zz_W K A ad (zm_c K ad th N G L) H) (fun v9 _ H9 => v9 = some (.int (zz_bo (v = 0 ∧ P))) ∧ zz_W K A ad (zm_c K ad v N G L) H9) zz_nx A := by
  refine zz_body (by decide +kernel) (Nat.le_of_ble_eq_true rfl) ?_
  intro p e s m below meth c ls hx hb hr hml hts hown hlocks hmn htab hE hA hP hl
  have hN := hE.N
  have hK := hE.K
  have hown : s.vm.findClass RX3 = some m.cls := hown
  have hl : lv_has ls 3 [(0, .ref (ad 0 0)), (1, .int v), (2, .int (zz_bo P))] := hl
  have hZ : zz_Z K A s ad (zm_c K ad th N G L) s.heap := ⟨hE, hA, hP⟩
  have hS : va_S zz_no s.heap s.heap [] := va_S.rf
  obtain ⟨H, hH⟩ : ∃ z, z = s.heap := ⟨_, rfl⟩
  have hS0 : va_S zz_no s.heap H [] := by rw [hH]; exact hS
  rw [← hH] at hZ
  have hE0 := hE
  clear hS
  have hS := hS0
  show W p l e _ s m _ below meth c s.heap [] 0 0 _ (F0 m 0 ls [])
  rw [← hH]
  refine lv_aload_n hx hb dX3_asks_0 rfl (lv_at hl 0 rfl) ?_
  refine lv_iload_n hx hb dX3_asks_1 rfl (lv_at hl 1 rfl) ?_
  have hS : va_S A s.heap H _ := zz_Smono hS (fun _ h => h.elim)
  have haA_4 := (zm_ob hZ.W).2
  refine zz_put (ci := 6) (C := RX3) (T := TX3) (N := 22) (v := .int v) (ty1 := .int) hx hb hts hown hK hS (zm_ob hZ.W).1 haA_4 rfl zf_X3 tyX3_ok nmX3 0 (by decide) zw_808 (fun _ h9 => h9) rfl (by decide +kernel) rfl rfl (Nat.le_of_ble_eq_true rfl) dX3_asks_2 (fun H locs ha_2 hz_3 ho_1 hS => ?_)
  have hZ : zz_Z K A s ad (zm_c K ad v N G L) H := hZ.put haA_4 hz_3 ho_1 (zm_put_thrown hZ.W ha_2 ho_1)
  refine lv_iload_n hx hb dX3_asks_5 rfl (lv_at hl 1 rfl) ?_
  refine lv_if_ne (tgt := 17) hx hb dX3_asks_6 (by decide) (fun c_5 => ?_) (fun c_5 => ?_)
  · skip
    refine zz_con 0 hx hb dX3_asks_17 (by decide) ?_
    refine zz_zret hx hb hr hlocks hS (Nat.le_of_ble_eq_true rfl) (Nat.le_of_ble_eq_true rfl) dX3_asks_18 (show nI 0 = 0 ∨ nI 0 = 1 by decide) ?_
    refine ⟨?_, ?_⟩
    · skip
      refine congrArg (fun z => some (Value.int z)) (zz_bo_f ?_).symm
      first | assumption | omega | (simp_all; done) | (simp [c_5]; done) | (simp_all; done) | (split <;> first | rfl | omega | (simp_all; done); done)
    · first | exact hZ.W | (refine zm_co ?_ ?_ ?_ ?_ hZ.W <;> first | rfl | (simp_all; done) | (simp [c_5]; done) | (simp_all; done) | (split <;> first | rfl | omega | (simp_all; done); done))
  · skip
    refine lv_iload_n hx hb dX3_asks_9 rfl (lv_at hl 2 rfl) ?_
    refine zz_bi_eq (tgt := 17) hx hb dX3_asks_10 (by decide) (fun c_6 => ?_) (fun c_6 => ?_)
    · skip
      refine zz_con 0 hx hb dX3_asks_17 (by decide) ?_
      refine zz_zret hx hb hr hlocks hS (Nat.le_of_ble_eq_true rfl) (Nat.le_of_ble_eq_true rfl) dX3_asks_18 (show nI 0 = 0 ∨ nI 0 = 1 by decide) ?_
      refine ⟨?_, ?_⟩
      · skip
        refine congrArg (fun z => some (Value.int z)) (zz_bo_f ?_).symm
        first | assumption | omega | (simp_all; done) | (simp [c_5, c_6]; done) | (simp_all; done) | (split <;> first | rfl | omega | (simp_all; done); done)
      · first | exact hZ.W | (refine zm_co ?_ ?_ ?_ ?_ hZ.W <;> first | rfl | (simp_all; done) | (simp [c_5, c_6]; done) | (simp_all; done) | (split <;> first | rfl | omega | (simp_all; done); done))
    · skip
      refine zz_con 1 hx hb dX3_asks_13 (by decide) ?_
      refine lv_goto (tgt := 18) hx hb dX3_asks_14 (by decide) ?_
      refine zz_zret hx hb hr hlocks hS (Nat.le_of_ble_eq_true rfl) (Nat.le_of_ble_eq_true rfl) dX3_asks_18 (show nI 1 = 0 ∨ nI 1 = 1 by decide) ?_
      refine ⟨?_, ?_⟩
      · skip
        refine congrArg (fun z => some (Value.int z)) (zz_bo_t ?_).symm
        first | assumption | omega | (simp_all; done) | (simp [c_5, c_6]; done) | (simp_all; done) | (split <;> first | rfl | omega | (simp_all; done); done)
      · first | exact hZ.W | (refine zm_co ?_ ?_ ?_ ?_ hZ.W <;> first | rfl | (simp_all; done) | (simp [c_5, c_6]; done) | (simp_all; done) | (split <;> first | rfl | omega | (simp_all; done); done))

set_option maxHeartbeats 4000000 in
set_option maxRecDepth 100000 in
theorem c_X3_isFloor (l : Launch) {K : zz_G} {A : Nat → Prop} {ad : Nat → Nat → Nat} {th : Int32} {N : Nat → Nat → Nat} {G : Nat → Nat → Int32} {L : Nat → Int64} (hI : zq N) (x : Int32) : zz_C l yX3_isFloor cX3_isFloor 2 (Option.some FieldType.boolean) ({ frames := 1, cells := 0, slots := 0, locals := 22 } : Room) K A [.ref (ad 0 0), .int x] (fun H => zz_W K A ad (zm_c K ad th N G L) H) (fun v9 _ _ => v9 = some (.int (zz_bo (zin x (N 0 0))))) zz_nx zz_no := by
  refine zz_body (by decide +kernel) (Nat.le_of_ble_eq_true rfl) ?_
  intro p e s m below meth c ls hx hb hr hml hts hown hlocks hmn htab hE hA hP hl
  have hN := hE.N
  have hK := hE.K
  have hown : s.vm.findClass RX3 = some m.cls := hown
  have hl : lv_has ls 2 [(0, .ref (ad 0 0)), (1, .int x)] := hl
  have hZ : zz_Z K A s ad (zm_c K ad th N G L) s.heap := ⟨hE, hA, hP⟩
  have hS : va_S zz_no s.heap s.heap [] := va_S.rf
  obtain ⟨H, hH⟩ : ∃ z, z = s.heap := ⟨_, rfl⟩
  have hS0 : va_S zz_no s.heap H [] := by rw [hH]; exact hS
  rw [← hH] at hZ
  have hE0 := hE
  clear hS
  have hS := hS0
  have hB := hI.B
  have h00 := hI.f
  have h01 := hI.p
  have h02 := hI.b
  show W p l e _ s m _ below meth c s.heap [] 0 0 _ (F0 m 0 ls [])
  rw [← hH]
  refine lv_iload_n hx hb dX3_isFloor_0 rfl (lv_at hl 1 rfl) ?_
  refine zz_con 0 hx hb dX3_isFloor_1 (by decide) ?_
  refine lv_aload_n hx hb dX3_isFloor_2 rfl (lv_at hl 0 rfl) ?_
  refine zz_get (ci := 6) (C := RX3) (T := TX3) (N := 22) (v := .int (nI (N 0 0))) hx hb hts hown hK (zm_ob hZ.W).1 rfl zf_X3 1 (by decide) zw_809 (fun _ h9 => h9) rfl dX3_isFloor_3 ?_
  refine zz_con 1 hx hb dX3_isFloor_6 (by decide) ?_
  refine lv_isub hx hb dX3_isFloor_7 ?_
  refine zz_after (pc := 8) rfl (zz_runS (As := [.int x, .int (nI 0), .int ((nI (N 0 0)) - (nI 1))]) (rest := []) hx hb hml hown hts (c_X3_in l (K := K) (A := A) x (nI 0) ((nI (N 0 0)) - (nI 1))) zw_884 zw_885 zw_5 zw_886 zd_X3_in ⟨Nat.le_of_ble_eq_true rfl, Nat.le_of_ble_eq_true rfl⟩ hZ.E hZ.A trivial hl.1 (Nat.le_of_ble_eq_true rfl) dX3_isFloor_8 ⟨Nat.le_of_ble_eq_true rfl, Nat.le_of_ble_eq_true rfl⟩) hS (fun _ h => h.elim) (fun v_3 H locs hq_1 hF_2 hS => ?_)
  refine W.widen (k := 0) (n := 0) (Nat.le_of_ble_eq_true rfl) (Nat.le_of_ble_eq_true rfl) ?_
  obtain rfl := hq_1
  have hZ := hZ.ro hF_2
  refine W.eq (g2 := F0 m 11 ls [.int (zz_bo (nI 0 ≤ x ∧ x ≤ (nI (N 0 0)) - (nI 1)))]) rfl ?_
  refine zz_zret hx hb hr hlocks hS (Nat.le_of_ble_eq_true rfl) (Nat.le_of_ble_eq_true rfl) dX3_isFloor_11 (zz_bo_01 (P := nI 0 ≤ x ∧ x ≤ (nI (N 0 0)) - (nI 1))) ?_
  first | rfl | (exact congrArg (fun z => some (Value.int z)) (zz_bo_c (zin_in (by omega))); done) | (simp []; done) | (simp_all; done) | (split <;> first | rfl | omega | (simp_all; done); done)

set_option maxHeartbeats 4000000 in
set_option maxRecDepth 100000 in
theorem c_X3_isPerson (l : Launch) {K : zz_G} {A : Nat → Prop} {ad : Nat → Nat → Nat} {th : Int32} {N : Nat → Nat → Nat} {G : Nat → Nat → Int32} {L : Nat → Int64} (hI : zq N) (x : Int32) : zz_C l yX3_isPerson cX3_isPerson 2 (Option.some FieldType.boolean) ({ frames := 1, cells := 0, slots := 0, locals := 22 } : Room) K A [.ref (ad 0 0), .int x] (fun H => zz_W K A ad (zm_c K ad th N G L) H) (fun v9 _ _ => v9 = some (.int (zz_bo (zin x (N 0 1))))) zz_nx zz_no := by
  refine zz_body (by decide +kernel) (Nat.le_of_ble_eq_true rfl) ?_
  intro p e s m below meth c ls hx hb hr hml hts hown hlocks hmn htab hE hA hP hl
  have hN := hE.N
  have hK := hE.K
  have hown : s.vm.findClass RX3 = some m.cls := hown
  have hl : lv_has ls 2 [(0, .ref (ad 0 0)), (1, .int x)] := hl
  have hZ : zz_Z K A s ad (zm_c K ad th N G L) s.heap := ⟨hE, hA, hP⟩
  have hS : va_S zz_no s.heap s.heap [] := va_S.rf
  obtain ⟨H, hH⟩ : ∃ z, z = s.heap := ⟨_, rfl⟩
  have hS0 : va_S zz_no s.heap H [] := by rw [hH]; exact hS
  rw [← hH] at hZ
  have hE0 := hE
  clear hS
  have hS := hS0
  have hB := hI.B
  have h00 := hI.f
  have h01 := hI.p
  have h02 := hI.b
  show W p l e _ s m _ below meth c s.heap [] 0 0 _ (F0 m 0 ls [])
  rw [← hH]
  refine lv_iload_n hx hb dX3_isPerson_0 rfl (lv_at hl 1 rfl) ?_
  refine zz_con 0 hx hb dX3_isPerson_1 (by decide) ?_
  refine lv_aload_n hx hb dX3_isPerson_2 rfl (lv_at hl 0 rfl) ?_
  refine zz_get (ci := 6) (C := RX3) (T := TX3) (N := 22) (v := .int (nI (N 0 1))) hx hb hts hown hK (zm_ob hZ.W).1 rfl zf_X3 2 (by decide) zw_810 (fun _ h9 => h9) rfl dX3_isPerson_3 ?_
  refine zz_con 1 hx hb dX3_isPerson_6 (by decide) ?_
  refine lv_isub hx hb dX3_isPerson_7 ?_
  refine zz_after (pc := 8) rfl (zz_runS (As := [.int x, .int (nI 0), .int ((nI (N 0 1)) - (nI 1))]) (rest := []) hx hb hml hown hts (c_X3_in l (K := K) (A := A) x (nI 0) ((nI (N 0 1)) - (nI 1))) zw_884 zw_885 zw_5 zw_886 zd_X3_in ⟨Nat.le_of_ble_eq_true rfl, Nat.le_of_ble_eq_true rfl⟩ hZ.E hZ.A trivial hl.1 (Nat.le_of_ble_eq_true rfl) dX3_isPerson_8 ⟨Nat.le_of_ble_eq_true rfl, Nat.le_of_ble_eq_true rfl⟩) hS (fun _ h => h.elim) (fun v_3 H locs hq_1 hF_2 hS => ?_)
  refine W.widen (k := 0) (n := 0) (Nat.le_of_ble_eq_true rfl) (Nat.le_of_ble_eq_true rfl) ?_
  obtain rfl := hq_1
  have hZ := hZ.ro hF_2
  refine W.eq (g2 := F0 m 11 ls [.int (zz_bo (nI 0 ≤ x ∧ x ≤ (nI (N 0 1)) - (nI 1)))]) rfl ?_
  refine zz_zret hx hb hr hlocks hS (Nat.le_of_ble_eq_true rfl) (Nat.le_of_ble_eq_true rfl) dX3_isPerson_11 (zz_bo_01 (P := nI 0 ≤ x ∧ x ≤ (nI (N 0 1)) - (nI 1))) ?_
  first | rfl | (exact congrArg (fun z => some (Value.int z)) (zz_bo_c (zin_in (by omega))); done) | (simp []; done) | (simp_all; done) | (split <;> first | rfl | omega | (simp_all; done); done)

set_option maxHeartbeats 4000000 in
set_option maxRecDepth 100000 in
theorem c_X3_addFloor (l : Launch) {K : zz_G} {A : Nat → Prop} {ad : Nat → Nat → Nat} {th : Int32} {N : Nat → Nat → Nat} {G : Nat → Nat → Int32} {L : Nat → Int64} (hI : zq N) (x y : Int32) : zz_C l yX3_addFloor cX3_addFloor 3 (Option.some FieldType.int) ({ frames := 1, cells := 0, slots := 0, locals := 22 } : Room) K A [.ref (ad 0 0), .int x, .int y] (fun H => zz_W K A ad (zm_c K ad th N G L) H) (fun v9 _ H9 => v9 = some (.int ((zs_addFloor N G x y).2.1)) ∧ zz_W K A ad (zm_c K ad (nI (zs_addFloor N G x y).1) ((zs_addFloor N G x y).2.2.1) ((zs_addFloor N G x y).2.2.2) L) H9) zz_nx A := by
  refine zz_body (by decide +kernel) (Nat.le_of_ble_eq_true rfl) ?_
  intro p e s m below meth c ls hx hb hr hml hts hown hlocks hmn htab hE hA hP hl
  have hN := hE.N
  have hK := hE.K
  have hown : s.vm.findClass RX3 = some m.cls := hown
  have hl : lv_has ls 3 [(0, .ref (ad 0 0)), (1, .int x), (2, .int y)] := hl
  have hZ : zz_Z K A s ad (zm_c K ad th N G L) s.heap := ⟨hE, hA, hP⟩
  have hS : va_S zz_no s.heap s.heap [] := va_S.rf
  obtain ⟨H, hH⟩ : ∃ z, z = s.heap := ⟨_, rfl⟩
  have hS0 : va_S zz_no s.heap H [] := by rw [hH]; exact hS
  rw [← hH] at hZ
  have hE0 := hE
  clear hS
  have hS := hS0
  have hB := hI.B
  have h00 := hI.f
  have h01 := hI.p
  have h02 := hI.b
  show W p l e _ s m _ below meth c s.heap [] 0 0 _ (F0 m 0 ls [])
  rw [← hH]
  refine lv_iload_n hx hb dX3_addFloor_0 rfl (lv_at hl 1 rfl) ?_
  refine zz_con 1 hx hb dX3_addFloor_1 (by decide) ?_
  refine lv_bipush (v := nI 12) hx hb dX3_addFloor_2 (by decide) ?_
  refine zz_after (pc := 4) rfl (zz_runS (As := [.int x, .int (nI 1), .int (nI 12)]) (rest := []) hx hb hml hown hts (c_X3_in l (K := K) (A := A) x (nI 1) (nI 12)) zw_884 zw_885 zw_5 zw_886 zd_X3_in ⟨Nat.le_of_ble_eq_true rfl, Nat.le_of_ble_eq_true rfl⟩ hZ.E hZ.A trivial hl.1 (Nat.le_of_ble_eq_true rfl) dX3_addFloor_4 ⟨Nat.le_of_ble_eq_true rfl, Nat.le_of_ble_eq_true rfl⟩) hS (fun _ h => h.elim) (fun v_3 H locs hq_1 hF_2 hS => ?_)
  refine W.widen (k := 0) (n := 0) (Nat.le_of_ble_eq_true rfl) (Nat.le_of_ble_eq_true rfl) ?_
  obtain rfl := hq_1
  have hZ := hZ.ro hF_2
  refine W.eq (g2 := F0 m 7 ls [.int (zz_bo (nI 1 ≤ x ∧ x ≤ nI 12))]) rfl ?_
  refine zz_bi_eq (tgt := 20) hx hb dX3_addFloor_7 (by decide) (fun c_4 => ?_) (fun c_4 => ?_)
  · skip
    refine lv_aload_n hx hb dX3_addFloor_20 rfl (lv_at hl 0 rfl) ?_
    refine zz_con 1 hx hb dX3_addFloor_21 (by decide) ?_
    have hS : va_S A s.heap H _ := zz_Smono hS (fun _ h => h.elim)
    refine zz_after (pc := 22) rfl (zz_runV (ci := 6) (q0 := (RX3, TX3, 22)) (b := ad 0 0) (As := [.int (nI 1)]) (rest := []) hx hb hml hown hts (c_X3_fails l (K := K) (A := A) (ad := ad) (th := th) (N := N) (G := G) (L := L) (nI 1)) zw_887 zw_889 zs_34 zw_5 zw_890 zd_X3_fails ⟨Nat.le_of_ble_eq_true rfl, Nat.le_of_ble_eq_true rfl⟩ hZ.E hZ.A (zm_ob hZ.W).1 rfl rfl hZ.W hl.1 (Nat.le_of_ble_eq_true rfl) dX3_addFloor_22 ⟨Nat.le_of_ble_eq_true rfl, Nat.le_of_ble_eq_true rfl⟩) hS (fun _ h => h) (fun v_7 H locs hq_5 hF_6 hS => ?_)
    refine W.widen (k := 0) (n := 0) (Nat.le_of_ble_eq_true rfl) (Nat.le_of_ble_eq_true rfl) ?_
    obtain ⟨rfl, hW9⟩ := hq_5
    have hZ : zz_Z K A s ad (zm_c K ad (nI 1) N G L) H := hZ.mut hF_6 hW9
    refine W.eq (g2 := F0 m 25 ls [.int (nI 0)]) rfl ?_
    refine zz_iret hx hb hr hlocks hS (Nat.le_of_ble_eq_true rfl) (Nat.le_of_ble_eq_true rfl) dX3_addFloor_25 ?_
    refine ⟨?_, ?_⟩
    · skip
      first | rfl | (simp [zs_addFloor, c_4]; done) | (simp_all [zs_addFloor]; done) | (simp [c_4]; done) | (simp_all; done) | (split <;> first | rfl | omega | (simp_all; done); done)
    · first | exact hZ.W | (refine zm_co ?_ ?_ ?_ ?_ hZ.W <;> first | rfl | (simp [zs_addFloor, c_4]; done) | (simp_all [zs_addFloor]; done) | (simp [c_4]; done) | (simp_all; done) | (split <;> first | rfl | omega | (simp_all; done); done))
  · skip
    obtain ⟨a1, ha1, rfl⟩ := zz_rng2 (a := 1) (b := 12) (by decide) (by decide) c_4
    have ha1c : (nI a1).toNatClampNeg = a1 := nI_clamp (by omega)
    have ha1b : a1 < 2 ^ 31 := by omega
    refine lv_iload_n hx hb dX3_addFloor_10 rfl (lv_at hl 2 rfl) ?_
    refine zz_con 0 hx hb dX3_addFloor_11 (by decide) ?_
    refine lv_bipush (v := nI 99) hx hb dX3_addFloor_12 (by decide) ?_
    refine zz_after (pc := 14) rfl (zz_runS (As := [.int y, .int (nI 0), .int (nI 99)]) (rest := []) hx hb hml hown hts (c_X3_in l (K := K) (A := A) y (nI 0) (nI 99)) zw_884 zw_885 zw_5 zw_886 zd_X3_in ⟨Nat.le_of_ble_eq_true rfl, Nat.le_of_ble_eq_true rfl⟩ hZ.E hZ.A trivial hl.1 (Nat.le_of_ble_eq_true rfl) dX3_addFloor_14 ⟨Nat.le_of_ble_eq_true rfl, Nat.le_of_ble_eq_true rfl⟩) hS (fun _ h => h.elim) (fun v_10 H locs hq_8 hF_9 hS => ?_)
    refine W.widen (k := 0) (n := 0) (Nat.le_of_ble_eq_true rfl) (Nat.le_of_ble_eq_true rfl) ?_
    obtain rfl := hq_8
    have hZ := hZ.ro hF_9
    refine W.eq (g2 := F0 m 17 ls [.int (zz_bo (nI 0 ≤ y ∧ y ≤ nI 99))]) rfl ?_
    refine zz_bi_ne (tgt := 26) hx hb dX3_addFloor_17 (by decide) (fun c_11 => ?_) (fun c_11 => ?_)
    · skip
      obtain ⟨b1, hb1, rfl⟩ := zz_rng2 (a := 0) (b := 99) (by decide) (by decide) c_11
      have hb1c : (nI b1).toNatClampNeg = b1 := nI_clamp (by omega)
      have hb1b : b1 < 2 ^ 31 := by omega
      refine lv_aload_n hx hb dX3_addFloor_26 rfl (lv_at hl 0 rfl) ?_
      refine zz_get (ci := 6) (C := RX3) (T := TX3) (N := 22) (v := .int (nI (N 0 0))) hx hb hts hown hK (zm_ob hZ.W).1 rfl zf_X3 1 (by decide) zw_809 (fun _ h9 => h9) rfl dX3_addFloor_27 ?_
      refine lv_bipush (v := nI 6) hx hb dX3_addFloor_30 (by decide) ?_
      refine zz_ic_ne (tgt := 41) (by first | exact hB _ _ | exact hUa _ | exact hUb _ | exact hUc _ | exact hUd _ | omega) (by decide) hx hb dX3_addFloor_32 (by decide) (fun c_12 => ?_) (fun c_12 => ?_)
      · skip
        have h06 : N 0 0 < 6 := by omega
        refine lv_aload_n hx hb dX3_addFloor_41 rfl (lv_at hl 0 rfl) ?_
        refine zz_get (ci := 6) (C := RX3) (T := TX3) (N := 22) (v := .ref (ad 1 0)) hx hb hts hown hK (zm_ob hZ.W).1 rfl zf_X3 6 (by decide) zw_814 (fun _ h9 => h9) rfl dX3_addFloor_42 ?_
        refine lv_aload_n hx hb dX3_addFloor_45 rfl (lv_at hl 0 rfl) ?_
        refine zz_get (ci := 6) (C := RX3) (T := TX3) (N := 22) (v := .int (nI (N 0 0))) hx hb hts hown hK (zm_ob hZ.W).1 rfl zf_X3 1 (by decide) zw_809 (fun _ h9 => h9) rfl dX3_addFloor_46 ?_
        refine lv_iload_n hx hb dX3_addFloor_49 rfl (lv_at hl 1 rfl) ?_
        have hS : va_S A s.heap H _ := zz_Smono hS (fun _ h => h.elim)
        have haA_16 := (zm_seats hZ.W).2
        refine zz_iast (x := nI a1) hx hb hK hS (zm_seats hZ.W).1 haA_16 (vp_in_nI (show N 0 0 < 6 by omega) (by decide)) dX3_addFloor_50 (fun H locs ha_14 hz_15 ho_13 hS => ?_)
        have hZ : zz_Z K A s ad (zm_c K ad th (zu N 1 (N 0 0) a1) G L) H := hZ.put haA_16 hz_15 ho_13 (zm_put_a_seats hZ.W (by omega) (nI_clamp (by omega)) rfl ha_14 ho_13)
        refine lv_aload_n hx hb dX3_addFloor_51 rfl (lv_at hl 0 rfl) ?_
        refine zz_get (ci := 6) (C := RX3) (T := TX3) (N := 22) (v := .ref (ad 1 1)) hx hb hts hown hK (zm_ob hZ.W).1 rfl zf_X3 7 (by decide) zw_815 (fun _ h9 => h9) rfl dX3_addFloor_52 ?_
        refine lv_aload_n hx hb dX3_addFloor_55 rfl (lv_at hl 0 rfl) ?_
        refine zz_get (ci := 6) (C := RX3) (T := TX3) (N := 22) (v := .int (nI (N 0 0))) hx hb hts hown hK (zm_ob hZ.W).1 rfl zf_X3 1 (by decide) zw_809 (fun _ h9 => h9) rfl dX3_addFloor_56 ?_
        refine lv_iload_n hx hb dX3_addFloor_59 rfl (lv_at hl 2 rfl) ?_
        have haA_20 := (zm_cost hZ.W).2
        refine zz_iast (x := nI b1) hx hb hK hS (zm_cost hZ.W).1 haA_20 (vp_in_nI (show N 0 0 < 6 by omega) (by decide)) dX3_addFloor_60 (fun H locs ha_18 hz_19 ho_17 hS => ?_)
        have hZ : zz_Z K A s ad (zm_c K ad th (zu (zu N 1 (N 0 0) a1) 2 (N 0 0) b1) G L) H := hZ.put haA_20 hz_19 ho_17 (zm_put_a_cost hZ.W (by omega) (nI_clamp (by omega)) rfl ha_18 ho_17)
        refine lv_aload_n hx hb dX3_addFloor_61 rfl (lv_at hl 0 rfl) ?_
        refine zz_get (ci := 6) (C := RX3) (T := TX3) (N := 22) (v := .ref (ad 1 2)) hx hb hts hown hK (zm_ob hZ.W).1 rfl zf_X3 8 (by decide) zw_816 (fun _ h9 => h9) rfl dX3_addFloor_62 ?_
        refine lv_aload_n hx hb dX3_addFloor_65 rfl (lv_at hl 0 rfl) ?_
        refine zz_get (ci := 6) (C := RX3) (T := TX3) (N := 22) (v := .int (nI (N 0 0))) hx hb hts hown hK (zm_ob hZ.W).1 rfl zf_X3 1 (by decide) zw_809 (fun _ h9 => h9) rfl dX3_addFloor_66 ?_
        refine lv_sipush (v := nI 180) hx hb dX3_addFloor_69 (by decide) ?_
        have haA_24 := (zm_warmth hZ.W).2
        refine zz_iast (x := nI 180) hx hb hK hS (zm_warmth hZ.W).1 haA_24 (vp_in_nI (show N 0 0 < 6 by omega) (by decide)) dX3_addFloor_72 (fun H locs ha_22 hz_23 ho_21 hS => ?_)
        have hZ : zz_Z K A s ad (zm_c K ad th (zu (zu N 1 (N 0 0) a1) 2 (N 0 0) b1) (zg G 0 (N 0 0) (nI 180)) L) H := hZ.put haA_24 hz_23 ho_21 (zm_put_a_warmth hZ.W (by omega) (nI_clamp (by omega)) rfl ha_22 ho_21)
        refine lv_aload_n hx hb dX3_addFloor_73 rfl (lv_at hl 0 rfl) ?_
        refine zz_get (ci := 6) (C := RX3) (T := TX3) (N := 22) (v := .ref (ad 1 3)) hx hb hts hown hK (zm_ob hZ.W).1 rfl zf_X3 9 (by decide) zw_817 (fun _ h9 => h9) rfl dX3_addFloor_74 ?_
        refine lv_aload_n hx hb dX3_addFloor_77 rfl (lv_at hl 0 rfl) ?_
        refine zz_get (ci := 6) (C := RX3) (T := TX3) (N := 22) (v := .int (nI (N 0 0))) hx hb hts hown hK (zm_ob hZ.W).1 rfl zf_X3 1 (by decide) zw_809 (fun _ h9 => h9) rfl dX3_addFloor_78 ?_
        refine lv_sipush (v := nI 400) hx hb dX3_addFloor_81 (by decide) ?_
        have haA_28 := (zm_air hZ.W).2
        refine zz_iast (x := nI 400) hx hb hK hS (zm_air hZ.W).1 haA_28 (vp_in_nI (show N 0 0 < 6 by omega) (by decide)) dX3_addFloor_84 (fun H locs ha_26 hz_27 ho_25 hS => ?_)
        have hZ : zz_Z K A s ad (zm_c K ad th (zu (zu N 1 (N 0 0) a1) 2 (N 0 0) b1) (zg (zg G 0 (N 0 0) (nI 180)) 1 (N 0 0) (nI 400)) L) H := hZ.put haA_28 hz_27 ho_25 (zm_put_a_air hZ.W (by omega) (nI_clamp (by omega)) rfl ha_26 ho_25)
        refine lv_aload_n hx hb dX3_addFloor_85 rfl (lv_at hl 0 rfl) ?_
        refine lv_dup hx hb dX3_addFloor_86 rfl ?_
        refine zz_get (ci := 6) (C := RX3) (T := TX3) (N := 22) (v := .int (nI (N 0 0))) hx hb hts hown hK (zm_ob hZ.W).1 rfl zf_X3 1 (by decide) zw_809 (fun _ h9 => h9) rfl dX3_addFloor_87 ?_
        refine zz_con 1 hx hb dX3_addFloor_90 (by decide) ?_
        refine zz_add hx hb dX3_addFloor_91 ?_
        have haA_32 := (zm_ob hZ.W).2
        refine zz_put (ci := 6) (C := RX3) (T := TX3) (N := 22) (v := .int (nI ((N 0 0) + 1))) (ty1 := .int) hx hb hts hown hK hS (zm_ob hZ.W).1 haA_32 rfl zf_X3 tyX3_ok nmX3 1 (by decide) zw_809 (fun _ h9 => h9) rfl (by decide +kernel) rfl rfl (Nat.le_of_ble_eq_true rfl) dX3_addFloor_92 (fun H locs ha_30 hz_31 ho_29 hS => ?_)
        have hZ : zz_Z K A s ad (zm_c K ad th (zu (zu (zu N 1 (N 0 0) a1) 2 (N 0 0) b1) 0 0 ((N 0 0) + 1)) (zg (zg G 0 (N 0 0) (nI 180)) 1 (N 0 0) (nI 400)) L) H := hZ.put haA_32 hz_31 ho_29 (zm_put_floors hZ.W ha_30 ho_29)
        refine lv_aload_n hx hb dX3_addFloor_95 rfl (lv_at hl 0 rfl) ?_
        refine lv_aload_n hx hb dX3_addFloor_96 rfl (lv_at hl 0 rfl) ?_
        refine zz_get (ci := 6) (C := RX3) (T := TX3) (N := 22) (v := .int (nI ((N 0 0) + 1))) hx hb hts hown hK (zm_ob hZ.W).1 rfl zf_X3 1 (by decide) zw_809 (fun _ h9 => h9) rfl dX3_addFloor_97 ?_
        refine zz_con 1 hx hb dX3_addFloor_100 (by decide) ?_
        refine zz_sub (by omega) hx hb dX3_addFloor_101 ?_
        refine zz_after (pc := 102) rfl (zz_runV (ci := 6) (q0 := (RX3, TX3, 22)) (b := ad 0 0) (As := [.int (nI (((N 0 0) + 1) - 1))]) (rest := []) hx hb hml hown hts (c_X3_tells l (K := K) (A := A) (ad := ad) (th := th) (N := (zu (zu (zu N 1 (N 0 0) a1) 2 (N 0 0) b1) 0 0 ((N 0 0) + 1))) (G := (zg (zg G 0 (N 0 0) (nI 180)) 1 (N 0 0) (nI 400))) (L := L) (nI (((N 0 0) + 1) - 1))) zw_891 zw_893 zs_35 zw_5 zw_894 zd_X3_tells ⟨Nat.le_of_ble_eq_true rfl, Nat.le_of_ble_eq_true rfl⟩ hZ.E hZ.A (zm_ob hZ.W).1 rfl rfl hZ.W hl.1 (Nat.le_of_ble_eq_true rfl) dX3_addFloor_102 ⟨Nat.le_of_ble_eq_true rfl, Nat.le_of_ble_eq_true rfl⟩) hS (fun _ h => h) (fun v_35 H locs hq_33 hF_34 hS => ?_)
        refine W.widen (k := 0) (n := 0) (Nat.le_of_ble_eq_true rfl) (Nat.le_of_ble_eq_true rfl) ?_
        obtain ⟨rfl, hW9⟩ := hq_33
        have hZ : zz_Z K A s ad (zm_c K ad (nI 0) (zu (zu (zu N 1 (N 0 0) a1) 2 (N 0 0) b1) 0 0 ((N 0 0) + 1)) (zg (zg G 0 (N 0 0) (nI 180)) 1 (N 0 0) (nI 400)) L) H := hZ.mut hF_34 hW9
        refine W.eq (g2 := F0 m 105 ls [.int (nI (((N 0 0) + 1) - 1))]) rfl ?_
        refine zz_iret hx hb hr hlocks hS (Nat.le_of_ble_eq_true rfl) (Nat.le_of_ble_eq_true rfl) dX3_addFloor_105 ?_
        refine ⟨?_, ?_⟩
        · skip
          first | rfl | (simp [zs_addFloor, c_4, ha1c, c_11, hb1c, c_12]; done) | (simp_all [zs_addFloor]; done) | (simp [c_4, ha1c, c_11, hb1c, c_12]; done) | (simp_all; done) | (split <;> first | rfl | omega | (simp_all; done); done)
        · first | exact hZ.W | (refine zm_co ?_ ?_ ?_ ?_ hZ.W <;> first | rfl | (simp [zs_addFloor, c_4, ha1c, c_11, hb1c, c_12]; done) | (simp_all [zs_addFloor]; done) | (simp [c_4, ha1c, c_11, hb1c, c_12]; done) | (simp_all; done) | (split <;> first | rfl | omega | (simp_all; done); done))
      · skip
        refine lv_aload_n hx hb dX3_addFloor_35 rfl (lv_at hl 0 rfl) ?_
        refine zz_con 2 hx hb dX3_addFloor_36 (by decide) ?_
        have hS : va_S A s.heap H _ := zz_Smono hS (fun _ h => h.elim)
        refine zz_after (pc := 37) rfl (zz_runV (ci := 6) (q0 := (RX3, TX3, 22)) (b := ad 0 0) (As := [.int (nI 2)]) (rest := []) hx hb hml hown hts (c_X3_fails l (K := K) (A := A) (ad := ad) (th := th) (N := N) (G := G) (L := L) (nI 2)) zw_887 zw_889 zs_34 zw_5 zw_890 zd_X3_fails ⟨Nat.le_of_ble_eq_true rfl, Nat.le_of_ble_eq_true rfl⟩ hZ.E hZ.A (zm_ob hZ.W).1 rfl rfl hZ.W hl.1 (Nat.le_of_ble_eq_true rfl) dX3_addFloor_37 ⟨Nat.le_of_ble_eq_true rfl, Nat.le_of_ble_eq_true rfl⟩) hS (fun _ h => h) (fun v_38 H locs hq_36 hF_37 hS => ?_)
        refine W.widen (k := 0) (n := 0) (Nat.le_of_ble_eq_true rfl) (Nat.le_of_ble_eq_true rfl) ?_
        obtain ⟨rfl, hW9⟩ := hq_36
        have hZ : zz_Z K A s ad (zm_c K ad (nI 2) N G L) H := hZ.mut hF_37 hW9
        refine W.eq (g2 := F0 m 40 ls [.int (nI 0)]) rfl ?_
        refine zz_iret hx hb hr hlocks hS (Nat.le_of_ble_eq_true rfl) (Nat.le_of_ble_eq_true rfl) dX3_addFloor_40 ?_
        refine ⟨?_, ?_⟩
        · skip
          first | rfl | (simp [zs_addFloor, c_4, ha1c, c_11, hb1c, c_12]; done) | (simp_all [zs_addFloor]; done) | (simp [c_4, ha1c, c_11, hb1c, c_12]; done) | (simp_all; done) | (split <;> first | rfl | omega | (simp_all; done); done)
        · first | exact hZ.W | (refine zm_co ?_ ?_ ?_ ?_ hZ.W <;> first | rfl | (simp [zs_addFloor, c_4, ha1c, c_11, hb1c, c_12]; done) | (simp_all [zs_addFloor]; done) | (simp [c_4, ha1c, c_11, hb1c, c_12]; done) | (simp_all; done) | (split <;> first | rfl | omega | (simp_all; done); done))
    · skip
      refine lv_aload_n hx hb dX3_addFloor_20 rfl (lv_at hl 0 rfl) ?_
      refine zz_con 1 hx hb dX3_addFloor_21 (by decide) ?_
      have hS : va_S A s.heap H _ := zz_Smono hS (fun _ h => h.elim)
      refine zz_after (pc := 22) rfl (zz_runV (ci := 6) (q0 := (RX3, TX3, 22)) (b := ad 0 0) (As := [.int (nI 1)]) (rest := []) hx hb hml hown hts (c_X3_fails l (K := K) (A := A) (ad := ad) (th := th) (N := N) (G := G) (L := L) (nI 1)) zw_887 zw_889 zs_34 zw_5 zw_890 zd_X3_fails ⟨Nat.le_of_ble_eq_true rfl, Nat.le_of_ble_eq_true rfl⟩ hZ.E hZ.A (zm_ob hZ.W).1 rfl rfl hZ.W hl.1 (Nat.le_of_ble_eq_true rfl) dX3_addFloor_22 ⟨Nat.le_of_ble_eq_true rfl, Nat.le_of_ble_eq_true rfl⟩) hS (fun _ h => h) (fun v_41 H locs hq_39 hF_40 hS => ?_)
      refine W.widen (k := 0) (n := 0) (Nat.le_of_ble_eq_true rfl) (Nat.le_of_ble_eq_true rfl) ?_
      obtain ⟨rfl, hW9⟩ := hq_39
      have hZ : zz_Z K A s ad (zm_c K ad (nI 1) N G L) H := hZ.mut hF_40 hW9
      refine W.eq (g2 := F0 m 25 ls [.int (nI 0)]) rfl ?_
      refine zz_iret hx hb hr hlocks hS (Nat.le_of_ble_eq_true rfl) (Nat.le_of_ble_eq_true rfl) dX3_addFloor_25 ?_
      refine ⟨?_, ?_⟩
      · skip
        first | rfl | (simp [zs_addFloor, c_4, ha1c, c_11]; done) | (simp_all [zs_addFloor]; done) | (simp [c_4, ha1c, c_11]; done) | (simp_all; done) | (split <;> first | rfl | omega | (simp_all; done); done)
      · first | exact hZ.W | (refine zm_co ?_ ?_ ?_ ?_ hZ.W <;> first | rfl | (simp [zs_addFloor, c_4, ha1c, c_11]; done) | (simp_all [zs_addFloor]; done) | (simp [c_4, ha1c, c_11]; done) | (simp_all; done) | (split <;> first | rfl | omega | (simp_all; done); done))

set_option maxHeartbeats 4000000 in
set_option maxRecDepth 100000 in
theorem c_X3_setCost (l : Launch) {K : zz_G} {A : Nat → Prop} {ad : Nat → Nat → Nat} {th : Int32} {N : Nat → Nat → Nat} {G : Nat → Nat → Int32} {L : Nat → Int64} (hI : zq N) (x y : Int32) : zz_C l yX3_setCost cX3_setCost 4 (Option.some FieldType.int) ({ frames := 2, cells := 0, slots := 0, locals := 43 } : Room) K A [.ref (ad 0 0), .int x, .int y] (fun H => zz_W K A ad (zm_c K ad th N G L) H) (fun v9 _ H9 => v9 = some (.int ((zs_setCost N x y).2.1)) ∧ zz_W K A ad (zm_c K ad (nI (zs_setCost N x y).1) ((zs_setCost N x y).2.2) G L) H9) zz_nx A := by
  refine zz_body (by decide +kernel) (Nat.le_of_ble_eq_true rfl) ?_
  intro p e s m below meth c ls hx hb hr hml hts hown hlocks hmn htab hE hA hP hl
  have hN := hE.N
  have hK := hE.K
  have hown : s.vm.findClass RX3 = some m.cls := hown
  have hl : lv_has ls 4 [(0, .ref (ad 0 0)), (1, .int x), (2, .int y)] := hl
  have hZ : zz_Z K A s ad (zm_c K ad th N G L) s.heap := ⟨hE, hA, hP⟩
  have hS : va_S zz_no s.heap s.heap [] := va_S.rf
  obtain ⟨H, hH⟩ : ∃ z, z = s.heap := ⟨_, rfl⟩
  have hS0 : va_S zz_no s.heap H [] := by rw [hH]; exact hS
  rw [← hH] at hZ
  have hE0 := hE
  clear hS
  have hS := hS0
  have hB := hI.B
  have h00 := hI.f
  have h01 := hI.p
  have h02 := hI.b
  show W p l e _ s m _ below meth c s.heap [] 0 0 _ (F0 m 0 ls [])
  rw [← hH]
  refine lv_aload_n hx hb dX3_setCost_0 rfl (lv_at hl 0 rfl) ?_
  refine lv_iload_n hx hb dX3_setCost_1 rfl (lv_at hl 1 rfl) ?_
  refine zz_after (pc := 2) rfl (zz_runV (ci := 6) (q0 := (RX3, TX3, 22)) (b := ad 0 0) (As := [.int x]) (rest := []) hx hb hml hown hts (c_X3_isFloor l (K := K) (A := A) (ad := ad) (th := th) (N := N) (G := G) (L := L) hI x) zw_899 zw_901 zs_36 zw_5 zw_902 zd_X3_isFloor ⟨Nat.le_of_ble_eq_true rfl, Nat.le_of_ble_eq_true rfl⟩ hZ.E hZ.A (zm_ob hZ.W).1 rfl rfl hZ.W hl.1 (Nat.le_of_ble_eq_true rfl) dX3_setCost_2 ⟨Nat.le_of_ble_eq_true rfl, Nat.le_of_ble_eq_true rfl⟩) hS (fun _ h => h.elim) (fun v_3 H locs hq_1 hF_2 hS => ?_)
  refine W.widen (k := 0) (n := 0) (Nat.le_of_ble_eq_true rfl) (Nat.le_of_ble_eq_true rfl) ?_
  obtain rfl := hq_1
  have hZ := hZ.ro hF_2
  refine W.eq (g2 := F0 m 5 ls [.int (zz_bo (zin x (N 0 0)))]) rfl ?_
  refine zz_bi_ne (tgt := 14) hx hb dX3_setCost_5 (by decide) (fun c_4 => ?_) (fun c_4 => ?_)
  · skip
    obtain ⟨j, hj, rfl⟩ := zz_rng (by omega) c_4.1 c_4.2
    have hjc : (nI j).toNatClampNeg = j := nI_clamp (by omega)
    have hjb : j < 2 ^ 31 := by omega
    refine lv_iload_n hx hb dX3_setCost_14 rfl (lv_at hl 2 rfl) ?_
    refine zz_con 0 hx hb dX3_setCost_15 (by decide) ?_
    refine lv_bipush (v := nI 99) hx hb dX3_setCost_16 (by decide) ?_
    refine zz_after (pc := 18) rfl (zz_runS (As := [.int y, .int (nI 0), .int (nI 99)]) (rest := []) hx hb hml hown hts (c_X3_in l (K := K) (A := A) y (nI 0) (nI 99)) zw_884 zw_885 zw_5 zw_886 zd_X3_in ⟨Nat.le_of_ble_eq_true rfl, Nat.le_of_ble_eq_true rfl⟩ hZ.E hZ.A trivial hl.1 (Nat.le_of_ble_eq_true rfl) dX3_setCost_18 ⟨Nat.le_of_ble_eq_true rfl, Nat.le_of_ble_eq_true rfl⟩) hS (fun _ h => h.elim) (fun v_7 H locs hq_5 hF_6 hS => ?_)
    refine W.widen (k := 0) (n := 0) (Nat.le_of_ble_eq_true rfl) (Nat.le_of_ble_eq_true rfl) ?_
    obtain rfl := hq_5
    have hZ := hZ.ro hF_6
    refine W.eq (g2 := F0 m 21 ls [.int (zz_bo (nI 0 ≤ y ∧ y ≤ nI 99))]) rfl ?_
    refine zz_bi_ne (tgt := 30) hx hb dX3_setCost_21 (by decide) (fun c_8 => ?_) (fun c_8 => ?_)
    · skip
      obtain ⟨b1, hb1, rfl⟩ := zz_rng2 (a := 0) (b := 99) (by decide) (by decide) c_8
      have hb1c : (nI b1).toNatClampNeg = b1 := nI_clamp (by omega)
      have hb1b : b1 < 2 ^ 31 := by omega
      refine lv_aload_n hx hb dX3_setCost_30 rfl (lv_at hl 0 rfl) ?_
      refine zz_get (ci := 6) (C := RX3) (T := TX3) (N := 22) (v := .ref (ad 1 1)) hx hb hts hown hK (zm_ob hZ.W).1 rfl zf_X3 7 (by decide) zw_815 (fun _ h9 => h9) rfl dX3_setCost_31 ?_
      refine lv_iload_n hx hb dX3_setCost_34 rfl (lv_at hl 1 rfl) ?_
      refine zz_iald (y := nI (N 2 j)) hx hb hK (zm_cost hZ.W).1 (vp_in_nI (show j < 6 by omega) (by decide)) dX3_setCost_35 (by rw [nI_clamp (by omega)] <;> rfl) ?_
      refine lv_istore_n (lv' := [(3, .int (nI (N 2 j))), (0, .ref (ad 0 0)), (1, .int (nI j)), (2, .int (nI b1))]) hx hb dX3_setCost_36 rfl hl (Nat.le_of_ble_eq_true rfl) rfl (fun ls hl => ?_)
      refine lv_aload_n hx hb dX3_setCost_37 rfl (lv_at hl 1 rfl) ?_
      refine zz_get (ci := 6) (C := RX3) (T := TX3) (N := 22) (v := .ref (ad 1 1)) hx hb hts hown hK (zm_ob hZ.W).1 rfl zf_X3 7 (by decide) zw_815 (fun _ h9 => h9) rfl dX3_setCost_38 ?_
      refine lv_iload_n hx hb dX3_setCost_41 rfl (lv_at hl 2 rfl) ?_
      refine lv_iload_n hx hb dX3_setCost_42 rfl (lv_at hl 3 rfl) ?_
      have hS : va_S A s.heap H _ := zz_Smono hS (fun _ h => h.elim)
      have haA_12 := (zm_cost hZ.W).2
      refine zz_iast (x := nI b1) hx hb hK hS (zm_cost hZ.W).1 haA_12 (vp_in_nI (show j < 6 by omega) (by decide)) dX3_setCost_43 (fun H locs ha_10 hz_11 ho_9 hS => ?_)
      have hZ : zz_Z K A s ad (zm_c K ad th (zu N 2 j b1) G L) H := hZ.put haA_12 hz_11 ho_9 (zm_put_a_cost hZ.W (by omega) (nI_clamp (by omega)) rfl ha_10 ho_9)
      refine lv_aload_n hx hb dX3_setCost_44 rfl (lv_at hl 1 rfl) ?_
      refine lv_iload_n hx hb dX3_setCost_45 rfl (lv_at hl 0 rfl) ?_
      refine zz_after (pc := 46) rfl (zz_runV (ci := 6) (q0 := (RX3, TX3, 22)) (b := ad 0 0) (As := [.int (nI (N 2 j))]) (rest := []) hx hb hml hown hts (c_X3_tells l (K := K) (A := A) (ad := ad) (th := th) (N := (zu N 2 j b1)) (G := G) (L := L) (nI (N 2 j))) zw_891 zw_893 zs_35 zw_5 zw_894 zd_X3_tells ⟨Nat.le_of_ble_eq_true rfl, Nat.le_of_ble_eq_true rfl⟩ hZ.E hZ.A (zm_ob hZ.W).1 rfl rfl hZ.W hl.1 (Nat.le_of_ble_eq_true rfl) dX3_setCost_46 ⟨Nat.le_of_ble_eq_true rfl, Nat.le_of_ble_eq_true rfl⟩) hS (fun _ h => h) (fun v_15 H locs hq_13 hF_14 hS => ?_)
      refine W.widen (k := 0) (n := 0) (Nat.le_of_ble_eq_true rfl) (Nat.le_of_ble_eq_true rfl) ?_
      obtain ⟨rfl, hW9⟩ := hq_13
      have hZ : zz_Z K A s ad (zm_c K ad (nI 0) (zu N 2 j b1) G L) H := hZ.mut hF_14 hW9
      refine W.eq (g2 := F0 m 49 ls [.int (nI (N 2 j))]) rfl ?_
      refine zz_iret hx hb hr hlocks hS (Nat.le_of_ble_eq_true rfl) (Nat.le_of_ble_eq_true rfl) dX3_setCost_49 ?_
      refine ⟨?_, ?_⟩
      · skip
        first | rfl | (simp [zs_setCost, c_4, hjc, c_8, hb1c]; done) | (simp_all [zs_setCost]; done) | (simp [c_4, hjc, c_8, hb1c]; done) | (simp_all; done) | (split <;> first | rfl | omega | (simp_all; done); done)
      · first | exact hZ.W | (refine zm_co ?_ ?_ ?_ ?_ hZ.W <;> first | rfl | (simp [zs_setCost, c_4, hjc, c_8, hb1c]; done) | (simp_all [zs_setCost]; done) | (simp [c_4, hjc, c_8, hb1c]; done) | (simp_all; done) | (split <;> first | rfl | omega | (simp_all; done); done))
    · skip
      refine lv_aload_n hx hb dX3_setCost_24 rfl (lv_at hl 0 rfl) ?_
      refine zz_con 2 hx hb dX3_setCost_25 (by decide) ?_
      have hS : va_S A s.heap H _ := zz_Smono hS (fun _ h => h.elim)
      refine zz_after (pc := 26) rfl (zz_runV (ci := 6) (q0 := (RX3, TX3, 22)) (b := ad 0 0) (As := [.int (nI 2)]) (rest := []) hx hb hml hown hts (c_X3_fails l (K := K) (A := A) (ad := ad) (th := th) (N := N) (G := G) (L := L) (nI 2)) zw_887 zw_889 zs_34 zw_5 zw_890 zd_X3_fails ⟨Nat.le_of_ble_eq_true rfl, Nat.le_of_ble_eq_true rfl⟩ hZ.E hZ.A (zm_ob hZ.W).1 rfl rfl hZ.W hl.1 (Nat.le_of_ble_eq_true rfl) dX3_setCost_26 ⟨Nat.le_of_ble_eq_true rfl, Nat.le_of_ble_eq_true rfl⟩) hS (fun _ h => h) (fun v_18 H locs hq_16 hF_17 hS => ?_)
      refine W.widen (k := 0) (n := 0) (Nat.le_of_ble_eq_true rfl) (Nat.le_of_ble_eq_true rfl) ?_
      obtain ⟨rfl, hW9⟩ := hq_16
      have hZ : zz_Z K A s ad (zm_c K ad (nI 2) N G L) H := hZ.mut hF_17 hW9
      refine W.eq (g2 := F0 m 29 ls [.int (nI 0)]) rfl ?_
      refine zz_iret hx hb hr hlocks hS (Nat.le_of_ble_eq_true rfl) (Nat.le_of_ble_eq_true rfl) dX3_setCost_29 ?_
      refine ⟨?_, ?_⟩
      · skip
        first | rfl | (simp [zs_setCost, c_4, hjc, c_8]; done) | (simp_all [zs_setCost]; done) | (simp [c_4, hjc, c_8]; done) | (simp_all; done) | (split <;> first | rfl | omega | (simp_all; done); done)
      · first | exact hZ.W | (refine zm_co ?_ ?_ ?_ ?_ hZ.W <;> first | rfl | (simp [zs_setCost, c_4, hjc, c_8]; done) | (simp_all [zs_setCost]; done) | (simp [c_4, hjc, c_8]; done) | (simp_all; done) | (split <;> first | rfl | omega | (simp_all; done); done))
  · skip
    refine lv_aload_n hx hb dX3_setCost_8 rfl (lv_at hl 0 rfl) ?_
    refine zz_con 1 hx hb dX3_setCost_9 (by decide) ?_
    have hS : va_S A s.heap H _ := zz_Smono hS (fun _ h => h.elim)
    refine zz_after (pc := 10) rfl (zz_runV (ci := 6) (q0 := (RX3, TX3, 22)) (b := ad 0 0) (As := [.int (nI 1)]) (rest := []) hx hb hml hown hts (c_X3_fails l (K := K) (A := A) (ad := ad) (th := th) (N := N) (G := G) (L := L) (nI 1)) zw_887 zw_889 zs_34 zw_5 zw_890 zd_X3_fails ⟨Nat.le_of_ble_eq_true rfl, Nat.le_of_ble_eq_true rfl⟩ hZ.E hZ.A (zm_ob hZ.W).1 rfl rfl hZ.W hl.1 (Nat.le_of_ble_eq_true rfl) dX3_setCost_10 ⟨Nat.le_of_ble_eq_true rfl, Nat.le_of_ble_eq_true rfl⟩) hS (fun _ h => h) (fun v_21 H locs hq_19 hF_20 hS => ?_)
    refine W.widen (k := 0) (n := 0) (Nat.le_of_ble_eq_true rfl) (Nat.le_of_ble_eq_true rfl) ?_
    obtain ⟨rfl, hW9⟩ := hq_19
    have hZ : zz_Z K A s ad (zm_c K ad (nI 1) N G L) H := hZ.mut hF_20 hW9
    refine W.eq (g2 := F0 m 13 ls [.int (nI 0)]) rfl ?_
    refine zz_iret hx hb hr hlocks hS (Nat.le_of_ble_eq_true rfl) (Nat.le_of_ble_eq_true rfl) dX3_setCost_13 ?_
    refine ⟨?_, ?_⟩
    · skip
      first | rfl | (simp [zs_setCost, c_4]; done) | (simp_all [zs_setCost]; done) | (simp [c_4]; done) | (simp_all; done) | (split <;> first | rfl | omega | (simp_all; done); done)
    · first | exact hZ.W | (refine zm_co ?_ ?_ ?_ ?_ hZ.W <;> first | rfl | (simp [zs_setCost, c_4]; done) | (simp_all [zs_setCost]; done) | (simp [c_4]; done) | (simp_all; done) | (split <;> first | rfl | omega | (simp_all; done); done))

set_option maxHeartbeats 4000000 in
set_option maxRecDepth 100000 in
theorem c_X3_addPerson (l : Launch) {K : zz_G} {A : Nat → Prop} {ad : Nat → Nat → Nat} {th : Int32} {N : Nat → Nat → Nat} {G : Nat → Nat → Int32} {L : Nat → Int64} (hI : zq N) (x : Int32) : zz_C l yX3_addPerson cX3_addPerson 2 (Option.some FieldType.int) ({ frames := 1, cells := 0, slots := 0, locals := 22 } : Room) K A [.ref (ad 0 0), .int x] (fun H => zz_W K A ad (zm_c K ad th N G L) H) (fun v9 _ H9 => v9 = some (.int ((zs_addPerson N x).2.1)) ∧ zz_W K A ad (zm_c K ad (nI (zs_addPerson N x).1) ((zs_addPerson N x).2.2) G L) H9) zz_nx A := by
  refine zz_body (by decide +kernel) (Nat.le_of_ble_eq_true rfl) ?_
  intro p e s m below meth c ls hx hb hr hml hts hown hlocks hmn htab hE hA hP hl
  have hN := hE.N
  have hK := hE.K
  have hown : s.vm.findClass RX3 = some m.cls := hown
  have hl : lv_has ls 2 [(0, .ref (ad 0 0)), (1, .int x)] := hl
  have hZ : zz_Z K A s ad (zm_c K ad th N G L) s.heap := ⟨hE, hA, hP⟩
  have hS : va_S zz_no s.heap s.heap [] := va_S.rf
  obtain ⟨H, hH⟩ : ∃ z, z = s.heap := ⟨_, rfl⟩
  have hS0 : va_S zz_no s.heap H [] := by rw [hH]; exact hS
  rw [← hH] at hZ
  have hE0 := hE
  clear hS
  have hS := hS0
  have hB := hI.B
  have h00 := hI.f
  have h01 := hI.p
  have h02 := hI.b
  show W p l e _ s m _ below meth c s.heap [] 0 0 _ (F0 m 0 ls [])
  rw [← hH]
  refine lv_iload_n hx hb dX3_addPerson_0 rfl (lv_at hl 1 rfl) ?_
  refine zz_con 0 hx hb dX3_addPerson_1 (by decide) ?_
  refine zz_con 3 hx hb dX3_addPerson_2 (by decide) ?_
  refine zz_after (pc := 3) rfl (zz_runS (As := [.int x, .int (nI 0), .int (nI 3)]) (rest := []) hx hb hml hown hts (c_X3_in l (K := K) (A := A) x (nI 0) (nI 3)) zw_884 zw_885 zw_5 zw_886 zd_X3_in ⟨Nat.le_of_ble_eq_true rfl, Nat.le_of_ble_eq_true rfl⟩ hZ.E hZ.A trivial hl.1 (Nat.le_of_ble_eq_true rfl) dX3_addPerson_3 ⟨Nat.le_of_ble_eq_true rfl, Nat.le_of_ble_eq_true rfl⟩) hS (fun _ h => h.elim) (fun v_3 H locs hq_1 hF_2 hS => ?_)
  refine W.widen (k := 0) (n := 0) (Nat.le_of_ble_eq_true rfl) (Nat.le_of_ble_eq_true rfl) ?_
  obtain rfl := hq_1
  have hZ := hZ.ro hF_2
  refine W.eq (g2 := F0 m 6 ls [.int (zz_bo (nI 0 ≤ x ∧ x ≤ nI 3))]) rfl ?_
  refine zz_bi_ne (tgt := 15) hx hb dX3_addPerson_6 (by decide) (fun c_4 => ?_) (fun c_4 => ?_)
  · skip
    obtain ⟨j, hj, rfl⟩ := zz_rng2 (a := 0) (b := 3) (by decide) (by decide) c_4
    have hjc : (nI j).toNatClampNeg = j := nI_clamp (by omega)
    have hjb : j < 2 ^ 31 := by omega
    refine lv_aload_n hx hb dX3_addPerson_15 rfl (lv_at hl 0 rfl) ?_
    refine zz_get (ci := 6) (C := RX3) (T := TX3) (N := 22) (v := .int (nI (N 0 1))) hx hb hts hown hK (zm_ob hZ.W).1 rfl zf_X3 2 (by decide) zw_810 (fun _ h9 => h9) rfl dX3_addPerson_16 ?_
    refine lv_bipush (v := nI 12) hx hb dX3_addPerson_19 (by decide) ?_
    refine zz_ic_ne (tgt := 30) (by first | exact hB _ _ | exact hUa _ | exact hUb _ | exact hUc _ | exact hUd _ | omega) (by decide) hx hb dX3_addPerson_21 (by decide) (fun c_5 => ?_) (fun c_5 => ?_)
    · skip
      have h12 : N 0 1 < 12 := by omega
      refine lv_aload_n hx hb dX3_addPerson_30 rfl (lv_at hl 0 rfl) ?_
      refine zz_get (ci := 6) (C := RX3) (T := TX3) (N := 22) (v := .ref (ad 1 5)) hx hb hts hown hK (zm_ob hZ.W).1 rfl zf_X3 11 (by decide) zw_819 (fun _ h9 => h9) rfl dX3_addPerson_31 ?_
      refine lv_aload_n hx hb dX3_addPerson_34 rfl (lv_at hl 0 rfl) ?_
      refine zz_get (ci := 6) (C := RX3) (T := TX3) (N := 22) (v := .int (nI (N 0 1))) hx hb hts hown hK (zm_ob hZ.W).1 rfl zf_X3 2 (by decide) zw_810 (fun _ h9 => h9) rfl dX3_addPerson_35 ?_
      refine lv_iload_n hx hb dX3_addPerson_38 rfl (lv_at hl 1 rfl) ?_
      have hS : va_S A s.heap H _ := zz_Smono hS (fun _ h => h.elim)
      have haA_9 := (zm_team hZ.W).2
      refine zz_iast (x := nI j) hx hb hK hS (zm_team hZ.W).1 haA_9 (vp_in_nI (show N 0 1 < 12 by omega) (by decide)) dX3_addPerson_39 (fun H locs ha_7 hz_8 ho_6 hS => ?_)
      have hZ : zz_Z K A s ad (zm_c K ad th (zu N 4 (N 0 1) j) G L) H := hZ.put haA_9 hz_8 ho_6 (zm_put_a_team hZ.W (by omega) (nI_clamp (by omega)) rfl ha_7 ho_6)
      refine lv_aload_n hx hb dX3_addPerson_40 rfl (lv_at hl 0 rfl) ?_
      refine zz_get (ci := 6) (C := RX3) (T := TX3) (N := 22) (v := .ref (ad 1 6)) hx hb hts hown hK (zm_ob hZ.W).1 rfl zf_X3 12 (by decide) zw_820 (fun _ h9 => h9) rfl dX3_addPerson_41 ?_
      refine lv_aload_n hx hb dX3_addPerson_44 rfl (lv_at hl 0 rfl) ?_
      refine zz_get (ci := 6) (C := RX3) (T := TX3) (N := 22) (v := .int (nI (N 0 1))) hx hb hts hown hK (zm_ob hZ.W).1 rfl zf_X3 2 (by decide) zw_810 (fun _ h9 => h9) rfl dX3_addPerson_45 ?_
      refine zz_con 5 hx hb dX3_addPerson_48 (by decide) ?_
      have haA_13 := (zm_standing hZ.W).2
      refine zz_iast (x := nI 5) hx hb hK hS (zm_standing hZ.W).1 haA_13 (vp_in_nI (show N 0 1 < 12 by omega) (by decide)) dX3_addPerson_49 (fun H locs ha_11 hz_12 ho_10 hS => ?_)
      have hZ : zz_Z K A s ad (zm_c K ad th (zu (zu N 4 (N 0 1) j) 5 (N 0 1) 5) G L) H := hZ.put haA_13 hz_12 ho_10 (zm_put_a_standing hZ.W (by omega) (nI_clamp (by omega)) rfl ha_11 ho_10)
      refine lv_aload_n hx hb dX3_addPerson_50 rfl (lv_at hl 0 rfl) ?_
      refine zz_get (ci := 6) (C := RX3) (T := TX3) (N := 22) (v := .ref (ad 1 7)) hx hb hts hown hK (zm_ob hZ.W).1 rfl zf_X3 13 (by decide) zw_821 (fun _ h9 => h9) rfl dX3_addPerson_51 ?_
      refine lv_aload_n hx hb dX3_addPerson_54 rfl (lv_at hl 0 rfl) ?_
      refine zz_get (ci := 6) (C := RX3) (T := TX3) (N := 22) (v := .int (nI (N 0 1))) hx hb hts hown hK (zm_ob hZ.W).1 rfl zf_X3 2 (by decide) zw_810 (fun _ h9 => h9) rfl dX3_addPerson_55 ?_
      refine lv_iconst (v := (-1)) hx hb dX3_addPerson_58 (by decide) ?_
      have haA_17 := (zm_seat hZ.W).2
      refine zz_iast (x := (-1)) hx hb hK hS (zm_seat hZ.W).1 haA_17 (vp_in_nI (show N 0 1 < 12 by omega) (by decide)) dX3_addPerson_59 (fun H locs ha_15 hz_16 ho_14 hS => ?_)
      have hZ : zz_Z K A s ad (zm_c K ad th (zu (zu (zu N 4 (N 0 1) j) 5 (N 0 1) 5) 6 (N 0 1) 0) G L) H := hZ.put haA_17 hz_16 ho_14 (zm_put_a_seat hZ.W (by omega) (nI_clamp (by omega)) (by decide) ha_15 ho_14)
      refine lv_aload_n hx hb dX3_addPerson_60 rfl (lv_at hl 0 rfl) ?_
      refine lv_dup hx hb dX3_addPerson_61 rfl ?_
      refine zz_get (ci := 6) (C := RX3) (T := TX3) (N := 22) (v := .int (nI (N 0 1))) hx hb hts hown hK (zm_ob hZ.W).1 rfl zf_X3 2 (by decide) zw_810 (fun _ h9 => h9) rfl dX3_addPerson_62 ?_
      refine zz_con 1 hx hb dX3_addPerson_65 (by decide) ?_
      refine zz_add hx hb dX3_addPerson_66 ?_
      have haA_21 := (zm_ob hZ.W).2
      refine zz_put (ci := 6) (C := RX3) (T := TX3) (N := 22) (v := .int (nI ((N 0 1) + 1))) (ty1 := .int) hx hb hts hown hK hS (zm_ob hZ.W).1 haA_21 rfl zf_X3 tyX3_ok nmX3 2 (by decide) zw_810 (fun _ h9 => h9) rfl (by decide +kernel) rfl rfl (Nat.le_of_ble_eq_true rfl) dX3_addPerson_67 (fun H locs ha_19 hz_20 ho_18 hS => ?_)
      have hZ : zz_Z K A s ad (zm_c K ad th (zu (zu (zu (zu N 4 (N 0 1) j) 5 (N 0 1) 5) 6 (N 0 1) 0) 0 1 ((N 0 1) + 1)) G L) H := hZ.put haA_21 hz_20 ho_18 (zm_put_people hZ.W ha_19 ho_18)
      refine lv_aload_n hx hb dX3_addPerson_70 rfl (lv_at hl 0 rfl) ?_
      refine lv_aload_n hx hb dX3_addPerson_71 rfl (lv_at hl 0 rfl) ?_
      refine zz_get (ci := 6) (C := RX3) (T := TX3) (N := 22) (v := .int (nI ((N 0 1) + 1))) hx hb hts hown hK (zm_ob hZ.W).1 rfl zf_X3 2 (by decide) zw_810 (fun _ h9 => h9) rfl dX3_addPerson_72 ?_
      refine zz_con 1 hx hb dX3_addPerson_75 (by decide) ?_
      refine zz_sub (by omega) hx hb dX3_addPerson_76 ?_
      refine zz_after (pc := 77) rfl (zz_runV (ci := 6) (q0 := (RX3, TX3, 22)) (b := ad 0 0) (As := [.int (nI (((N 0 1) + 1) - 1))]) (rest := []) hx hb hml hown hts (c_X3_tells l (K := K) (A := A) (ad := ad) (th := th) (N := (zu (zu (zu (zu N 4 (N 0 1) j) 5 (N 0 1) 5) 6 (N 0 1) 0) 0 1 ((N 0 1) + 1))) (G := G) (L := L) (nI (((N 0 1) + 1) - 1))) zw_891 zw_893 zs_35 zw_5 zw_894 zd_X3_tells ⟨Nat.le_of_ble_eq_true rfl, Nat.le_of_ble_eq_true rfl⟩ hZ.E hZ.A (zm_ob hZ.W).1 rfl rfl hZ.W hl.1 (Nat.le_of_ble_eq_true rfl) dX3_addPerson_77 ⟨Nat.le_of_ble_eq_true rfl, Nat.le_of_ble_eq_true rfl⟩) hS (fun _ h => h) (fun v_24 H locs hq_22 hF_23 hS => ?_)
      refine W.widen (k := 0) (n := 0) (Nat.le_of_ble_eq_true rfl) (Nat.le_of_ble_eq_true rfl) ?_
      obtain ⟨rfl, hW9⟩ := hq_22
      have hZ : zz_Z K A s ad (zm_c K ad (nI 0) (zu (zu (zu (zu N 4 (N 0 1) j) 5 (N 0 1) 5) 6 (N 0 1) 0) 0 1 ((N 0 1) + 1)) G L) H := hZ.mut hF_23 hW9
      refine W.eq (g2 := F0 m 80 ls [.int (nI (((N 0 1) + 1) - 1))]) rfl ?_
      refine zz_iret hx hb hr hlocks hS (Nat.le_of_ble_eq_true rfl) (Nat.le_of_ble_eq_true rfl) dX3_addPerson_80 ?_
      refine ⟨?_, ?_⟩
      · skip
        first | rfl | (simp [zs_addPerson, c_4, hjc, c_5]; done) | (simp_all [zs_addPerson]; done) | (simp [c_4, hjc, c_5]; done) | (simp_all; done) | (split <;> first | rfl | omega | (simp_all; done); done)
      · first | exact hZ.W | (refine zm_co ?_ ?_ ?_ ?_ hZ.W <;> first | rfl | (simp [zs_addPerson, c_4, hjc, c_5]; done) | (simp_all [zs_addPerson]; done) | (simp [c_4, hjc, c_5]; done) | (simp_all; done) | (split <;> first | rfl | omega | (simp_all; done); done))
    · skip
      refine lv_aload_n hx hb dX3_addPerson_24 rfl (lv_at hl 0 rfl) ?_
      refine zz_con 2 hx hb dX3_addPerson_25 (by decide) ?_
      have hS : va_S A s.heap H _ := zz_Smono hS (fun _ h => h.elim)
      refine zz_after (pc := 26) rfl (zz_runV (ci := 6) (q0 := (RX3, TX3, 22)) (b := ad 0 0) (As := [.int (nI 2)]) (rest := []) hx hb hml hown hts (c_X3_fails l (K := K) (A := A) (ad := ad) (th := th) (N := N) (G := G) (L := L) (nI 2)) zw_887 zw_889 zs_34 zw_5 zw_890 zd_X3_fails ⟨Nat.le_of_ble_eq_true rfl, Nat.le_of_ble_eq_true rfl⟩ hZ.E hZ.A (zm_ob hZ.W).1 rfl rfl hZ.W hl.1 (Nat.le_of_ble_eq_true rfl) dX3_addPerson_26 ⟨Nat.le_of_ble_eq_true rfl, Nat.le_of_ble_eq_true rfl⟩) hS (fun _ h => h) (fun v_27 H locs hq_25 hF_26 hS => ?_)
      refine W.widen (k := 0) (n := 0) (Nat.le_of_ble_eq_true rfl) (Nat.le_of_ble_eq_true rfl) ?_
      obtain ⟨rfl, hW9⟩ := hq_25
      have hZ : zz_Z K A s ad (zm_c K ad (nI 2) N G L) H := hZ.mut hF_26 hW9
      refine W.eq (g2 := F0 m 29 ls [.int (nI 0)]) rfl ?_
      refine zz_iret hx hb hr hlocks hS (Nat.le_of_ble_eq_true rfl) (Nat.le_of_ble_eq_true rfl) dX3_addPerson_29 ?_
      refine ⟨?_, ?_⟩
      · skip
        first | rfl | (simp [zs_addPerson, c_4, hjc, c_5]; done) | (simp_all [zs_addPerson]; done) | (simp [c_4, hjc, c_5]; done) | (simp_all; done) | (split <;> first | rfl | omega | (simp_all; done); done)
      · first | exact hZ.W | (refine zm_co ?_ ?_ ?_ ?_ hZ.W <;> first | rfl | (simp [zs_addPerson, c_4, hjc, c_5]; done) | (simp_all [zs_addPerson]; done) | (simp [c_4, hjc, c_5]; done) | (simp_all; done) | (split <;> first | rfl | omega | (simp_all; done); done))
  · skip
    refine lv_aload_n hx hb dX3_addPerson_9 rfl (lv_at hl 0 rfl) ?_
    refine zz_con 1 hx hb dX3_addPerson_10 (by decide) ?_
    have hS : va_S A s.heap H _ := zz_Smono hS (fun _ h => h.elim)
    refine zz_after (pc := 11) rfl (zz_runV (ci := 6) (q0 := (RX3, TX3, 22)) (b := ad 0 0) (As := [.int (nI 1)]) (rest := []) hx hb hml hown hts (c_X3_fails l (K := K) (A := A) (ad := ad) (th := th) (N := N) (G := G) (L := L) (nI 1)) zw_887 zw_889 zs_34 zw_5 zw_890 zd_X3_fails ⟨Nat.le_of_ble_eq_true rfl, Nat.le_of_ble_eq_true rfl⟩ hZ.E hZ.A (zm_ob hZ.W).1 rfl rfl hZ.W hl.1 (Nat.le_of_ble_eq_true rfl) dX3_addPerson_11 ⟨Nat.le_of_ble_eq_true rfl, Nat.le_of_ble_eq_true rfl⟩) hS (fun _ h => h) (fun v_30 H locs hq_28 hF_29 hS => ?_)
    refine W.widen (k := 0) (n := 0) (Nat.le_of_ble_eq_true rfl) (Nat.le_of_ble_eq_true rfl) ?_
    obtain ⟨rfl, hW9⟩ := hq_28
    have hZ : zz_Z K A s ad (zm_c K ad (nI 1) N G L) H := hZ.mut hF_29 hW9
    refine W.eq (g2 := F0 m 14 ls [.int (nI 0)]) rfl ?_
    refine zz_iret hx hb hr hlocks hS (Nat.le_of_ble_eq_true rfl) (Nat.le_of_ble_eq_true rfl) dX3_addPerson_14 ?_
    refine ⟨?_, ?_⟩
    · skip
      first | rfl | (simp [zs_addPerson, c_4]; done) | (simp_all [zs_addPerson]; done) | (simp [c_4]; done) | (simp_all; done) | (split <;> first | rfl | omega | (simp_all; done); done)
    · first | exact hZ.W | (refine zm_co ?_ ?_ ?_ ?_ hZ.W <;> first | rfl | (simp [zs_addPerson, c_4]; done) | (simp_all [zs_addPerson]; done) | (simp [c_4]; done) | (simp_all; done) | (split <;> first | rfl | omega | (simp_all; done); done))

set_option maxHeartbeats 4000000 in
set_option maxRecDepth 100000 in
theorem c_X3_standing (l : Launch) {K : zz_G} {A : Nat → Prop} {ad : Nat → Nat → Nat} {th : Int32} {N : Nat → Nat → Nat} {G : Nat → Nat → Int32} {L : Nat → Int64} (hI : zq N) (x : Int32) : zz_C l yX3_standing cX3_standing 2 (Option.some FieldType.int) ({ frames := 2, cells := 0, slots := 0, locals := 43 } : Room) K A [.ref (ad 0 0), .int x] (fun H => zz_W K A ad (zm_c K ad th N G L) H) (fun v9 _ H9 => v9 = some (.int ((zs_standing N x).2)) ∧ zz_W K A ad (zm_c K ad (nI (zs_standing N x).1) N G L) H9) zz_nx A := by
  refine zz_body (by decide +kernel) (Nat.le_of_ble_eq_true rfl) ?_
  intro p e s m below meth c ls hx hb hr hml hts hown hlocks hmn htab hE hA hP hl
  have hN := hE.N
  have hK := hE.K
  have hown : s.vm.findClass RX3 = some m.cls := hown
  have hl : lv_has ls 2 [(0, .ref (ad 0 0)), (1, .int x)] := hl
  have hZ : zz_Z K A s ad (zm_c K ad th N G L) s.heap := ⟨hE, hA, hP⟩
  have hS : va_S zz_no s.heap s.heap [] := va_S.rf
  obtain ⟨H, hH⟩ : ∃ z, z = s.heap := ⟨_, rfl⟩
  have hS0 : va_S zz_no s.heap H [] := by rw [hH]; exact hS
  rw [← hH] at hZ
  have hE0 := hE
  clear hS
  have hS := hS0
  have hB := hI.B
  have h00 := hI.f
  have h01 := hI.p
  have h02 := hI.b
  show W p l e _ s m _ below meth c s.heap [] 0 0 _ (F0 m 0 ls [])
  rw [← hH]
  refine lv_aload_n hx hb dX3_standing_0 rfl (lv_at hl 0 rfl) ?_
  refine lv_iload_n hx hb dX3_standing_1 rfl (lv_at hl 1 rfl) ?_
  refine zz_after (pc := 2) rfl (zz_runV (ci := 6) (q0 := (RX3, TX3, 22)) (b := ad 0 0) (As := [.int x]) (rest := []) hx hb hml hown hts (c_X3_isPerson l (K := K) (A := A) (ad := ad) (th := th) (N := N) (G := G) (L := L) hI x) zw_911 zw_913 zs_37 zw_5 zw_914 zd_X3_isPerson ⟨Nat.le_of_ble_eq_true rfl, Nat.le_of_ble_eq_true rfl⟩ hZ.E hZ.A (zm_ob hZ.W).1 rfl rfl hZ.W hl.1 (Nat.le_of_ble_eq_true rfl) dX3_standing_2 ⟨Nat.le_of_ble_eq_true rfl, Nat.le_of_ble_eq_true rfl⟩) hS (fun _ h => h.elim) (fun v_3 H locs hq_1 hF_2 hS => ?_)
  refine W.widen (k := 0) (n := 0) (Nat.le_of_ble_eq_true rfl) (Nat.le_of_ble_eq_true rfl) ?_
  obtain rfl := hq_1
  have hZ := hZ.ro hF_2
  refine W.eq (g2 := F0 m 5 ls [.int (zz_bo (zin x (N 0 1)))]) rfl ?_
  refine zz_bi_eq (tgt := 21) hx hb dX3_standing_5 (by decide) (fun c_4 => ?_) (fun c_4 => ?_)
  · skip
    refine lv_aload_n hx hb dX3_standing_21 rfl (lv_at hl 0 rfl) ?_
    refine zz_con 1 hx hb dX3_standing_22 (by decide) ?_
    have hS : va_S A s.heap H _ := zz_Smono hS (fun _ h => h.elim)
    refine zz_after (pc := 23) rfl (zz_runV (ci := 6) (q0 := (RX3, TX3, 22)) (b := ad 0 0) (As := [.int (nI 1)]) (rest := []) hx hb hml hown hts (c_X3_fails l (K := K) (A := A) (ad := ad) (th := th) (N := N) (G := G) (L := L) (nI 1)) zw_887 zw_889 zs_34 zw_5 zw_890 zd_X3_fails ⟨Nat.le_of_ble_eq_true rfl, Nat.le_of_ble_eq_true rfl⟩ hZ.E hZ.A (zm_ob hZ.W).1 rfl rfl hZ.W hl.1 (Nat.le_of_ble_eq_true rfl) dX3_standing_23 ⟨Nat.le_of_ble_eq_true rfl, Nat.le_of_ble_eq_true rfl⟩) hS (fun _ h => h) (fun v_7 H locs hq_5 hF_6 hS => ?_)
    refine W.widen (k := 0) (n := 0) (Nat.le_of_ble_eq_true rfl) (Nat.le_of_ble_eq_true rfl) ?_
    obtain ⟨rfl, hW9⟩ := hq_5
    have hZ : zz_Z K A s ad (zm_c K ad (nI 1) N G L) H := hZ.mut hF_6 hW9
    refine W.eq (g2 := F0 m 26 ls [.int (nI 0)]) rfl ?_
    refine zz_iret hx hb hr hlocks hS (Nat.le_of_ble_eq_true rfl) (Nat.le_of_ble_eq_true rfl) dX3_standing_26 ?_
    refine ⟨?_, ?_⟩
    · skip
      first | rfl | (simp [zs_standing, c_4]; done) | (simp_all [zs_standing]; done) | (simp [c_4]; done) | (simp_all; done) | (split <;> first | rfl | omega | (simp_all; done); done)
    · first | exact hZ.W | (refine zm_co ?_ ?_ ?_ ?_ hZ.W <;> first | rfl | (simp [zs_standing, c_4]; done) | (simp_all [zs_standing]; done) | (simp [c_4]; done) | (simp_all; done) | (split <;> first | rfl | omega | (simp_all; done); done))
  · skip
    obtain ⟨j, hj, rfl⟩ := zz_rng (by omega) c_4.1 c_4.2
    have hjc : (nI j).toNatClampNeg = j := nI_clamp (by omega)
    have hjb : j < 2 ^ 31 := by omega
    refine lv_aload_n hx hb dX3_standing_8 rfl (lv_at hl 0 rfl) ?_
    refine lv_aload_n hx hb dX3_standing_9 rfl (lv_at hl 0 rfl) ?_
    refine zz_get (ci := 6) (C := RX3) (T := TX3) (N := 22) (v := .ref (ad 1 6)) hx hb hts hown hK (zm_ob hZ.W).1 rfl zf_X3 12 (by decide) zw_820 (fun _ h9 => h9) rfl dX3_standing_10 ?_
    refine lv_iload_n hx hb dX3_standing_13 rfl (lv_at hl 1 rfl) ?_
    refine zz_iald (y := nI (N 5 j)) hx hb hK (zm_standing hZ.W).1 (vp_in_nI (show j < 12 by omega) (by decide)) dX3_standing_14 (by rw [nI_clamp (by omega)] <;> rfl) ?_
    have hS : va_S A s.heap H _ := zz_Smono hS (fun _ h => h.elim)
    refine zz_after (pc := 15) rfl (zz_runV (ci := 6) (q0 := (RX3, TX3, 22)) (b := ad 0 0) (As := [.int (nI (N 5 j))]) (rest := []) hx hb hml hown hts (c_X3_tells l (K := K) (A := A) (ad := ad) (th := th) (N := N) (G := G) (L := L) (nI (N 5 j))) zw_891 zw_893 zs_35 zw_5 zw_894 zd_X3_tells ⟨Nat.le_of_ble_eq_true rfl, Nat.le_of_ble_eq_true rfl⟩ hZ.E hZ.A (zm_ob hZ.W).1 rfl rfl hZ.W hl.1 (Nat.le_of_ble_eq_true rfl) dX3_standing_15 ⟨Nat.le_of_ble_eq_true rfl, Nat.le_of_ble_eq_true rfl⟩) hS (fun _ h => h) (fun v_10 H locs hq_8 hF_9 hS => ?_)
    refine W.widen (k := 0) (n := 0) (Nat.le_of_ble_eq_true rfl) (Nat.le_of_ble_eq_true rfl) ?_
    obtain ⟨rfl, hW9⟩ := hq_8
    have hZ : zz_Z K A s ad (zm_c K ad (nI 0) N G L) H := hZ.mut hF_9 hW9
    refine W.eq (g2 := F0 m 18 ls [.int (nI (N 5 j))]) rfl ?_
    refine lv_goto (tgt := 26) hx hb dX3_standing_18 (by decide) ?_
    refine zz_iret hx hb hr hlocks hS (Nat.le_of_ble_eq_true rfl) (Nat.le_of_ble_eq_true rfl) dX3_standing_26 ?_
    refine ⟨?_, ?_⟩
    · skip
      first | rfl | (simp [zs_standing, c_4, hjc]; done) | (simp_all [zs_standing]; done) | (simp [c_4, hjc]; done) | (simp_all; done) | (split <;> first | rfl | omega | (simp_all; done); done)
    · first | exact hZ.W | (refine zm_co ?_ ?_ ?_ ?_ hZ.W <;> first | rfl | (simp [zs_standing, c_4, hjc]; done) | (simp_all [zs_standing]; done) | (simp [c_4, hjc]; done) | (simp_all; done) | (split <;> first | rfl | omega | (simp_all; done); done))

set_option maxHeartbeats 4000000 in
set_option maxRecDepth 100000 in
theorem c_X3_bookingOf (l : Launch) {K : zz_G} {A : Nat → Prop} {ad : Nat → Nat → Nat} {th : Int32} {N : Nat → Nat → Nat} {G : Nat → Nat → Int32} {L : Nat → Int64} (hI : zq N) {q : Nat} (hq : q < N 0 1) : zz_C l yX3_bookingOf cX3_bookingOf 3 (Option.some FieldType.int) ({ frames := 0, cells := 0, slots := 0, locals := 0 } : Room) K A [.ref (ad 0 0), .int (nI q)] (fun H => zz_W K A ad (zm_c K ad th N G L) H) (fun v9 _ _ => v9 = some (.int (nI (zfb N q (N 0 2)) - 1))) zz_nx zz_no := by
  refine zz_body (by decide +kernel) (Nat.le_of_ble_eq_true rfl) ?_
  intro p e s m below meth c ls hx hb hr hml hts hown hlocks hmn htab hE hA hP hl
  have hN := hE.N
  have hK := hE.K
  have hown : s.vm.findClass RX3 = some m.cls := hown
  have hl : lv_has ls 3 [(0, .ref (ad 0 0)), (1, .int (nI q))] := hl
  have hZ : zz_Z K A s ad (zm_c K ad th N G L) s.heap := ⟨hE, hA, hP⟩
  have hS : va_S zz_no s.heap s.heap [] := va_S.rf
  obtain ⟨H, hH⟩ : ∃ z, z = s.heap := ⟨_, rfl⟩
  have hS0 : va_S zz_no s.heap H [] := by rw [hH]; exact hS
  rw [← hH] at hZ
  have hE0 := hE
  clear hS
  have hS := hS0
  have hB := hI.B
  have h00 := hI.f
  have h01 := hI.p
  have h02 := hI.b
  show W p l e _ s m _ below meth c s.heap [] 0 0 _ (F0 m 0 ls [])
  rw [← hH]
  refine zz_con 0 hx hb dX3_bookingOf_0 (by decide) ?_
  refine lv_istore_n (lv' := [(2, .int (nI 0)), (0, .ref (ad 0 0)), (1, .int (nI q))]) hx hb dX3_bookingOf_1 rfl hl (Nat.le_of_ble_eq_true rfl) rfl (fun ls hl => ?_)
  have hL_2 : ∀ (k i : Nat), i ≤ N 0 2 → N 0 2 < i + k → (zfb N q i = 0) → ∀ (H : Heap) (locs : List Loc) (ls : Array Slot), zz_Z K A s ad (zm_c K ad th N G L) H → va_S zz_no s.heap H locs → lv_has ls 3 [(2, .int (nI i)), (0, .ref (ad 0 0)), (1, .int (nI q))] → W p l e ({ frames := 0, cells := 0, slots := 0, locals := 0 } : Room) s m ([.ref (ad 0 0), .int (nI q)] : List Value).toArray below meth c H locs 0 0 (vx_MQ below (zz_Qc (fun v9 _ _ => v9 = some (.int (nI (zfb N q (N 0 2)) - 1))) zz_no) (zz_XC zz_nx) ([.ref (ad 0 0), .int (nI q)] : List Value).toArray s ({ frames := 0, cells := 0, slots := 0, locals := 0 } : Room).cells ({ frames := 0, cells := 0, slots := 0, locals := 0 } : Room).slots zz_no) (F0 m 2 ls []) := by
    intro k
    induction k with
    | zero => intro i hi hik; omega
    | succ k ih_i =>
      intro i hii hiki hz H locs ls hZ hS hl
      refine lv_iload_n hx hb dX3_bookingOf_2 rfl (lv_at hl 0 rfl) ?_
      refine lv_aload_n hx hb dX3_bookingOf_3 rfl (lv_at hl 1 rfl) ?_
      refine zz_get (ci := 6) (C := RX3) (T := TX3) (N := 22) (v := .int (nI (N 0 2))) hx hb hts hown hK (zm_ob hZ.W).1 rfl zf_X3 3 (by decide) zw_811 (fun _ h9 => h9) rfl dX3_bookingOf_4 ?_
      refine zz_ic_ge (tgt := 28) (by first | exact hB _ _ | exact hUa _ | exact hUb _ | exact hUc _ | exact hUd _ | omega) (by first | exact hB _ _ | exact hUa _ | exact hUb _ | exact hUc _ | exact hUd _ | omega) hx hb dX3_bookingOf_7 (by decide) (fun c_3 => ?_) (fun c_3 => ?_)
      · skip
        obtain rfl : i = N 0 2 := by omega
        refine lv_iconst (v := (-1)) hx hb dX3_bookingOf_28 (by decide) ?_
        refine zz_cv (y := nI 0 - 1) zz_k0 ?_
        refine zz_iret hx hb hr hlocks hS (Nat.le_of_ble_eq_true rfl) (Nat.le_of_ble_eq_true rfl) dX3_bookingOf_29 ?_
        first | rfl | (rw [hz]; done) | (rw [show zfb N q (N 0 2) = i + 1 from by have e1 : zfb N q (i + 1) = i + 1 := by { rw [zfb, if_neg (by simpa using hz), if_pos (by assumption)] }; have e2 := zfb_up (N := N) (q := q) (n := i + 1) (by omega) (N 0 2 - (i + 1)); rw [show i + 1 + (N 0 2 - (i + 1)) = N 0 2 by omega] at e2; omega]; done) | (simp [c_3]; done) | (simp_all; done) | (split <;> first | rfl | omega | (simp_all; done); done)
      · skip
        refine lv_aload_n hx hb dX3_bookingOf_10 rfl (lv_at hl 1 rfl) ?_
        refine zz_get (ci := 6) (C := RX3) (T := TX3) (N := 22) (v := .ref (ad 1 11)) hx hb hts hown hK (zm_ob hZ.W).1 rfl zf_X3 17 (by decide) zw_825 (fun _ h9 => h9) rfl dX3_bookingOf_11 ?_
        refine lv_iload_n hx hb dX3_bookingOf_14 rfl (lv_at hl 0 rfl) ?_
        refine zz_iald (y := nI (N 9 i)) hx hb hK (zm_booker hZ.W).1 (vp_in_nI (show i < 12 by omega) (by decide)) dX3_bookingOf_15 (by rw [nI_clamp (by omega)] <;> rfl) ?_
        refine lv_iload_n hx hb dX3_bookingOf_16 rfl (lv_at hl 2 rfl) ?_
        refine zz_ic_ne (tgt := 22) (by first | exact hB _ _ | exact hUa _ | exact hUb _ | exact hUc _ | exact hUd _ | omega) (by first | exact hB _ _ | exact hUa _ | exact hUb _ | exact hUc _ | exact hUd _ | omega) hx hb dX3_bookingOf_17 (by decide) (fun c_4 => ?_) (fun c_4 => ?_)
        · skip
          refine zz_inc (k := 0) (lv' := [(2, .int (nI (i + 1))), (0, .ref (ad 0 0)), (1, .int (nI q))]) hx hb dX3_bookingOf_22 hl rfl (Nat.le_of_ble_eq_true rfl) rfl (fun ls hl => ?_)
          refine lv_goto (tgt := 2) hx hb dX3_bookingOf_25 (by decide) ?_
          refine ih_i (i + 1) (by omega) (by omega) (by rw [zfb, if_neg (by simpa using hz), if_neg (by assumption)]) _ _ _ ?_ hS ?_
          · exact hZ
          · skip
            exact lv_sub hl [0, 1, 2] rfl
        · skip
          refine lv_iload_n hx hb dX3_bookingOf_20 rfl (lv_at hl 0 rfl) ?_
          refine zz_cv (y := nI (i + 1) - 1) (zz_nk _) ?_
          refine zz_iret hx hb hr hlocks hS (Nat.le_of_ble_eq_true rfl) (Nat.le_of_ble_eq_true rfl) dX3_bookingOf_21 ?_
          first | rfl | (rw [hz]; done) | (rw [show zfb N q (N 0 2) = i + 1 from by have e1 : zfb N q (i + 1) = i + 1 := by { rw [zfb, if_neg (by simpa using hz), if_pos (by assumption)] }; have e2 := zfb_up (N := N) (q := q) (n := i + 1) (by omega) (N 0 2 - (i + 1)); rw [show i + 1 + (N 0 2 - (i + 1)) = N 0 2 by omega] at e2; omega]; done) | (simp [c_3, c_4]; done) | (simp_all; done) | (split <;> first | rfl | omega | (simp_all; done); done)
  refine hL_2 (N 0 2 + 1) 0 (by first | omega | exact Nat.zero_le _) (by first | omega | (rw [Nat.zero_add]; exact Nat.lt_succ_self _)) rfl _ _ _ hZ hS ?_
  exact lv_sub hl [0, 1, 2] rfl

set_option maxHeartbeats 4000000 in
set_option maxRecDepth 100000 in
theorem c_X3_seatsIn (l : Launch) {K : zz_G} {A : Nat → Prop} {ad : Nat → Nat → Nat} {th : Int32} {N : Nat → Nat → Nat} {G : Nat → Nat → Int32} {L : Nat → Int64} (hI : zq N) {S : Nat} (hSb : S < 2 ^ 31) : zz_C l yX3_seatsIn cX3_seatsIn 4 (Option.some FieldType.int) ({ frames := 0, cells := 0, slots := 0, locals := 0 } : Room) K A [.ref (ad 0 0), .int (nI S)] (fun H => zz_W K A ad (zm_c K ad th N G L) H) (fun v9 _ _ => v9 = some (.int (nI (zss N S)))) zz_nx zz_no := by
  refine zz_body (by decide +kernel) (Nat.le_of_ble_eq_true rfl) ?_
  intro p e s m below meth c ls hx hb hr hml hts hown hlocks hmn htab hE hA hP hl
  have hN := hE.N
  have hK := hE.K
  have hown : s.vm.findClass RX3 = some m.cls := hown
  have hl : lv_has ls 4 [(0, .ref (ad 0 0)), (1, .int (nI S))] := hl
  have hZ : zz_Z K A s ad (zm_c K ad th N G L) s.heap := ⟨hE, hA, hP⟩
  have hS : va_S zz_no s.heap s.heap [] := va_S.rf
  obtain ⟨H, hH⟩ : ∃ z, z = s.heap := ⟨_, rfl⟩
  have hS0 : va_S zz_no s.heap H [] := by rw [hH]; exact hS
  rw [← hH] at hZ
  have hE0 := hE
  clear hS
  have hS := hS0
  have hB := hI.B
  have h00 := hI.f
  have h01 := hI.p
  have h02 := hI.b
  show W p l e _ s m _ below meth c s.heap [] 0 0 _ (F0 m 0 ls [])
  rw [← hH]
  refine zz_con 0 hx hb dX3_seatsIn_0 (by decide) ?_
  refine lv_istore_n (lv' := [(2, .int (nI 0)), (0, .ref (ad 0 0)), (1, .int (nI S))]) hx hb dX3_seatsIn_1 rfl hl (Nat.le_of_ble_eq_true rfl) rfl (fun ls hl => ?_)
  refine zz_con 0 hx hb dX3_seatsIn_2 (by decide) ?_
  refine lv_istore_n (lv' := [(3, .int (nI 0)), (2, .int (nI 0)), (0, .ref (ad 0 0)), (1, .int (nI S))]) hx hb dX3_seatsIn_3 rfl hl (Nat.le_of_ble_eq_true rfl) rfl (fun ls hl => ?_)
  have hL_2 : ∀ (k i : Nat), i ≤ N 0 0 → N 0 0 < i + k → ∀ (H : Heap) (locs : List Loc) (ls : Array Slot), zz_Z K A s ad (zm_c K ad th N G L) H → va_S zz_no s.heap H locs → lv_has ls 4 [(3, .int (nI i)), (2, .int (nI (zsum (fun f => if S.testBit f = true then N 1 f else 0) i))), (0, .ref (ad 0 0)), (1, .int (nI S))] → W p l e ({ frames := 0, cells := 0, slots := 0, locals := 0 } : Room) s m ([.ref (ad 0 0), .int (nI S)] : List Value).toArray below meth c H locs 0 0 (vx_MQ below (zz_Qc (fun v9 _ _ => v9 = some (.int (nI (zss N S)))) zz_no) (zz_XC zz_nx) ([.ref (ad 0 0), .int (nI S)] : List Value).toArray s ({ frames := 0, cells := 0, slots := 0, locals := 0 } : Room).cells ({ frames := 0, cells := 0, slots := 0, locals := 0 } : Room).slots zz_no) (F0 m 4 ls []) := by
    intro k
    induction k with
    | zero => intro i hi hik; omega
    | succ k ih_i =>
      intro i hii hiki H locs ls hZ hS hl
      refine lv_iload_n hx hb dX3_seatsIn_4 rfl (lv_at hl 0 rfl) ?_
      refine lv_aload_n hx hb dX3_seatsIn_5 rfl (lv_at hl 2 rfl) ?_
      refine zz_get (ci := 6) (C := RX3) (T := TX3) (N := 22) (v := .int (nI (N 0 0))) hx hb hts hown hK (zm_ob hZ.W).1 rfl zf_X3 1 (by decide) zw_809 (fun _ h9 => h9) rfl dX3_seatsIn_6 ?_
      refine zz_ic_ge (tgt := 40) (by first | exact hB _ _ | exact hUa _ | exact hUb _ | exact hUc _ | exact hUd _ | omega) (by first | exact hB _ _ | exact hUa _ | exact hUb _ | exact hUc _ | exact hUd _ | omega) hx hb dX3_seatsIn_9 (by decide) (fun c_3 => ?_) (fun c_3 => ?_)
      · skip
        obtain rfl : i = N 0 0 := by omega
        refine lv_iload_n hx hb dX3_seatsIn_40 rfl (lv_at hl 1 rfl) ?_
        refine zz_iret hx hb hr hlocks hS (Nat.le_of_ble_eq_true rfl) (Nat.le_of_ble_eq_true rfl) dX3_seatsIn_41 ?_
        first | rfl | (simp [c_3]; done) | (simp_all; done) | (split <;> first | rfl | omega | (simp_all; done); done)
      · skip
        refine lv_iload_n hx hb dX3_seatsIn_12 rfl (lv_at hl 1 rfl) ?_
        refine lv_iload_n hx hb dX3_seatsIn_13 rfl (lv_at hl 3 rfl) ?_
        refine lv_iload_n hx hb dX3_seatsIn_14 rfl (lv_at hl 0 rfl) ?_
        refine lv_ishr hx hb dX3_seatsIn_15 ?_
        refine zz_con 1 hx hb dX3_seatsIn_16 (by decide) ?_
        refine lv_iand hx hb dX3_seatsIn_17 ?_
        refine zz_con 1 hx hb dX3_seatsIn_18 (by decide) ?_
        refine zz_bt_ne (tgt := 31) (by first | exact hB _ _ | exact hUa _ | exact hUb _ | exact hUc _ | exact hUd _ | omega) (by omega) hx hb dX3_seatsIn_19 (by decide) (fun c_4 => ?_) (fun c_4 => ?_)
        · skip
          refine zz_con 0 hx hb dX3_seatsIn_31 (by decide) ?_
          refine zz_add hx hb dX3_seatsIn_32 ?_
          refine lv_istore_n (lv' := [(2, .int (nI ((zsum (fun f => if S.testBit f = true then N 1 f else 0) i) + 0))), (3, .int (nI i)), (0, .ref (ad 0 0)), (1, .int (nI S))]) hx hb dX3_seatsIn_33 rfl hl (Nat.le_of_ble_eq_true rfl) rfl (fun ls hl => ?_)
          refine zz_inc (k := 1) (lv' := [(3, .int (nI (i + 1))), (2, .int (nI ((zsum (fun f => if S.testBit f = true then N 1 f else 0) i) + 0))), (0, .ref (ad 0 0)), (1, .int (nI S))]) hx hb dX3_seatsIn_34 hl rfl (Nat.le_of_ble_eq_true rfl) rfl (fun ls hl => ?_)
          refine lv_goto (tgt := 4) hx hb dX3_seatsIn_37 (by decide) ?_
          refine ih_i (i + 1) (by omega) (by omega) _ _ _ ?_ hS ?_
          · exact hZ
          · skip
            rw [show (.int (nI (zsum (fun f => if S.testBit f = true then N 1 f else 0) (i + 1))) : Value) = .int (nI ((zsum (fun f => if S.testBit f = true then N 1 f else 0) i) + 0)) from congrArg Value.int (by first | rfl | (simp [zsum, c_3, c_4]; done))]
            exact lv_sub hl [0, 1, 2, 3] rfl
        · skip
          refine lv_aload_n hx hb dX3_seatsIn_22 rfl (lv_at hl 2 rfl) ?_
          refine zz_get (ci := 6) (C := RX3) (T := TX3) (N := 22) (v := .ref (ad 1 0)) hx hb hts hown hK (zm_ob hZ.W).1 rfl zf_X3 6 (by decide) zw_814 (fun _ h9 => h9) rfl dX3_seatsIn_23 ?_
          refine lv_iload_n hx hb dX3_seatsIn_26 rfl (lv_at hl 0 rfl) ?_
          refine zz_iald (y := nI (N 1 i)) hx hb hK (zm_seats hZ.W).1 (vp_in_nI (show i < 6 by omega) (by decide)) dX3_seatsIn_27 (by rw [nI_clamp (by omega)] <;> rfl) ?_
          refine lv_goto (tgt := 32) hx hb dX3_seatsIn_28 (by decide) ?_
          refine zz_add hx hb dX3_seatsIn_32 ?_
          refine lv_istore_n (lv' := [(2, .int (nI ((zsum (fun f => if S.testBit f = true then N 1 f else 0) i) + (N 1 i)))), (3, .int (nI i)), (0, .ref (ad 0 0)), (1, .int (nI S))]) hx hb dX3_seatsIn_33 rfl hl (Nat.le_of_ble_eq_true rfl) rfl (fun ls hl => ?_)
          refine zz_inc (k := 1) (lv' := [(3, .int (nI (i + 1))), (2, .int (nI ((zsum (fun f => if S.testBit f = true then N 1 f else 0) i) + (N 1 i)))), (0, .ref (ad 0 0)), (1, .int (nI S))]) hx hb dX3_seatsIn_34 hl rfl (Nat.le_of_ble_eq_true rfl) rfl (fun ls hl => ?_)
          refine lv_goto (tgt := 4) hx hb dX3_seatsIn_37 (by decide) ?_
          refine ih_i (i + 1) (by omega) (by omega) _ _ _ ?_ hS ?_
          · exact hZ
          · skip
            rw [show (.int (nI (zsum (fun f => if S.testBit f = true then N 1 f else 0) (i + 1))) : Value) = .int (nI ((zsum (fun f => if S.testBit f = true then N 1 f else 0) i) + (N 1 i))) from congrArg Value.int (by first | rfl | (simp [zsum, c_3, c_4]; done))]
            exact lv_sub hl [0, 1, 2, 3] rfl
  refine hL_2 (N 0 0 + 1) 0 (by first | omega | exact Nat.zero_le _) (by first | omega | (rw [Nat.zero_add]; exact Nat.lt_succ_self _)) _ _ _ hZ hS ?_
  exact lv_sub hl [0, 1, 2, 3] rfl
