/-! by program (gen.py): contracts of methods -/
theorem zz_minNX {a b : Nat} (ha : a < 2 ^ 31) (hb : b < 2 ^ 31) : (if nI b < nI a then nI b else nI a) = nI (min a b) := by
  by_cases h : b < a
  · rw [if_pos ((nI_ltI hb ha).mpr h), Nat.min_eq_right (by omega)]
  · rw [if_neg (fun q => h ((nI_ltI hb ha).mp q)), Nat.min_eq_left (by omega)]
theorem znr_min {c S w i : Nat} (h : S.testBit i = true) : znr c S w (i + 1) = min (znr c S w i) (zd w i) := by
  have hc := zd_comm w i
  rw [znr]
  by_cases h9 : zd i w < znr c S w i
  · rw [if_pos ⟨h, h9⟩]; omega
  · rw [if_neg (fun z => h9 z.2)]; omega
theorem zz_le34 {x : Int32} : x ≤ nI 3 ↔ x < nI 4 := by
  rw [Int32.le_iff_toInt_le, Int32.lt_iff_toInt_lt, nI_toInt (by decide), nI_toInt (by decide)]
  omega
theorem zd_Jx4a65c_get_915e3 : yJx4a65c_get_915e3.cls ≠ "java/lang/invoke/MethodHandle" ∧ yJx4a65c_get_915e3.cls ≠ "java/lang/invoke/VarHandle" ∧ (parseMethodDescriptor yJx4a65c_get_915e3.desc).map (fun d => d.parameters.length) = some 1 := by decide +kernel
theorem zd_Jx4a65c_size_8abf5 : yJx4a65c_size_8abf5.cls ≠ "java/lang/invoke/MethodHandle" ∧ yJx4a65c_size_8abf5.cls ≠ "java/lang/invoke/VarHandle" ∧ (parseMethodDescriptor yJx4a65c_size_8abf5.desc).map (fun d => d.parameters.length) = some 0 := by decide +kernel
theorem zd_X0_distanceTo : yX0_distanceTo.cls ≠ "java/lang/invoke/MethodHandle" ∧ yX0_distanceTo.cls ≠ "java/lang/invoke/VarHandle" ∧ (parseMethodDescriptor yX0_distanceTo.desc).map (fun d => d.parameters.length) = some 1 := by decide +kernel
theorem zd_X0_isPartOf : yX0_isPartOf.cls ≠ "java/lang/invoke/MethodHandle" ∧ yX0_isPartOf.cls ≠ "java/lang/invoke/VarHandle" ∧ (parseMethodDescriptor yX0_isPartOf.desc).map (fun d => d.parameters.length) = some 1 := by decide +kernel
theorem zd_X1_isNoShow : yX1_isNoShow.cls ≠ "java/lang/invoke/MethodHandle" ∧ yX1_isNoShow.cls ≠ "java/lang/invoke/VarHandle" ∧ (parseMethodDescriptor yX1_isNoShow.desc).map (fun d => d.parameters.length) = some 0 := by decide +kernel
theorem zd_X2_distanceToSet : yX2_distanceToSet.cls ≠ "java/lang/invoke/MethodHandle" ∧ yX2_distanceToSet.cls ≠ "java/lang/invoke/VarHandle" ∧ (parseMethodDescriptor yX2_distanceToSet.desc).map (fun d => d.parameters.length) = some 2 := by decide +kernel
theorem zd_X2_seatsOfSet : yX2_seatsOfSet.cls ≠ "java/lang/invoke/MethodHandle" ∧ yX2_seatsOfSet.cls ≠ "java/lang/invoke/VarHandle" ∧ (parseMethodDescriptor yX2_seatsOfSet.desc).map (fun d => d.parameters.length) = some 1 := by decide +kernel
set_option maxHeartbeats 4000000 in
set_option maxRecDepth 100000 in
theorem c_X2_countSeatsGivenOn (l : Launch) {K : zz_G} {A : Nat → Prop} {ad : Nat → Nat → Nat} {E : Nat → Nat → Int32} {cap : Nat → Nat} {N : Nat → Nat → Nat} {G : Nat → Nat → Int32} {L : Nat → Int64} (hI : zq N) (hk : zk K ad cap N) {f : Nat} (hf : f < N 0 0) : zz_C l yX2_countSeatsGivenOn cX2_countSeatsGivenOn 4 (Option.some FieldType.int) ({ frames := 3, cells := 0, slots := 0, locals := 64 } : Room) K A [.ref (ad 0 0), .ref (ad 3 f)] (fun H => zz_W K A ad (zx_c K ad E cap N G L) H) (fun v9 _ _ => v9 = some (.int (nI (zsit N f 0)))) zz_nx zz_no := by
  refine zz_body (by decide +kernel) (Nat.le_of_ble_eq_true rfl) ?_
  intro p e s m below meth c ls hx hb hr hml hts hown hlocks hmn htab hE hA hP hl
  have hN := hE.N
  have hK := hE.K
  have hown : s.vm.findClass RX2 = some m.cls := hown
  have hl : lv_has ls 4 [(0, .ref (ad 0 0)), (1, .ref (ad 3 f))] := hl
  have hZ : zz_Z K A s ad (zx_c K ad E cap N G L) s.heap := ⟨hE, hA, hP⟩
  have hS : va_S zz_no s.heap s.heap [] := va_S.rf
  obtain ⟨H, hH⟩ : ∃ z, z = s.heap := ⟨_, rfl⟩
  have hS0 : va_S zz_no s.heap H [] := by rw [hH]; exact hS
  rw [← hH] at hZ
  have hE0 := hE
  clear hS
  have hS := hS0
  have hB := hI.B
  have hbk := hI.bk
  have h00 := hI.f
  have h01 := hI.p
  have h02 := hI.b
  have hk0 := hk 0 (by decide)
  have hk1 := hk 1 (by decide)
  have hk2 := hk 2 (by decide)
  show W p l e _ s m _ below meth c s.heap [] 0 0 _ (F0 m 0 ls [])
  rw [← hH]
  refine zz_con 0 hx hb dX2_countSeatsGivenOn_0 (by decide) ?_
  refine lv_istore_n (lv' := [(2, .int (nI 0)), (0, .ref (ad 0 0)), (1, .ref (ad 3 f))]) hx hb dX2_countSeatsGivenOn_1 rfl hl (Nat.le_of_ble_eq_true rfl) rfl (fun ls hl => ?_)
  refine zz_con 0 hx hb dX2_countSeatsGivenOn_2 (by decide) ?_
  refine lv_istore_n (lv' := [(3, .int (nI 0)), (2, .int (nI 0)), (0, .ref (ad 0 0)), (1, .ref (ad 3 f))]) hx hb dX2_countSeatsGivenOn_3 rfl hl (Nat.le_of_ble_eq_true rfl) rfl (fun ls hl => ?_)
  have hL_2 : ∀ (k i : Nat), i ≤ N 0 1 → N 0 1 < i + k → ∀ (H : Heap) (locs : List Loc) (ls : Array Slot), zz_Z K A s ad (zx_c K ad E cap N G L) H → va_S zz_no s.heap H locs → lv_has ls 4 [(3, .int (nI i)), (2, .int (nI (zc (fun q => N 6 q = f + 1 ∧ (0 = 0 ∨ N 4 q + 1 = 0)) i))), (0, .ref (ad 0 0)), (1, .ref (ad 3 f))] → W p l e ({ frames := 3, cells := 0, slots := 0, locals := 64 } : Room) s m ([.ref (ad 0 0), .ref (ad 3 f)] : List Value).toArray below meth c H locs 0 0 (vx_MQ below (zz_Qc (fun v9 _ _ => v9 = some (.int (nI (zsit N f 0)))) zz_no) (zz_XC zz_nx) ([.ref (ad 0 0), .ref (ad 3 f)] : List Value).toArray s ({ frames := 3, cells := 0, slots := 0, locals := 64 } : Room).cells ({ frames := 3, cells := 0, slots := 0, locals := 64 } : Room).slots zz_no) (F0 m 4 ls []) := by
    intro k
    induction k with
    | zero => intro i hi hik; omega
    | succ k ih_i =>
      intro i hii hiki H locs ls hZ hS hl
      refine lv_iload_n hx hb dX2_countSeatsGivenOn_4 rfl (lv_at hl 0 rfl) ?_
      refine lv_aload_n hx hb dX2_countSeatsGivenOn_5 rfl (lv_at hl 2 rfl) ?_
      refine zz_get (ci := 5) (C := RX2) (T := TX2) (N := 8) (v := .ref (ad 1 1)) hx hb hts hown hK (zx_ob hZ.W).1 rfl zf_X2 1 (by decide) zw_60 (fun _ h9 => h9) rfl dX2_countSeatsGivenOn_6 ?_
      refine zz_after (pc := 9) rfl (zz_runV (ci := 2) (q0 := (RJx4a65c, TJx4a65c, 3)) (b := ad 1 1) (As := []) (rest := [.int (nI i)]) hx hb hml hown hts (c_Jx4a65c_size_8abf5 l (K := K) (A := A) (ad := ad) (E := E) (cap := cap) (N := N) (G := G) (L := L) hk (by decide)) zw_88 zw_89 zw_90 zw_4 zw_91 zd_Jx4a65c_size_8abf5 ⟨Nat.le_of_ble_eq_true rfl, Nat.le_of_ble_eq_true rfl⟩ hZ.E hZ.A (zx_li hZ.W (t := 1) (by decide)).1 rfl rfl hZ.W hl.1 (Nat.le_of_ble_eq_true rfl) dX2_countSeatsGivenOn_9 ⟨Nat.le_of_ble_eq_true rfl, Nat.le_of_ble_eq_true rfl⟩) hS (fun _ h => h.elim) (fun v_5 H locs hq_3 hF_4 hS => ?_)
      refine W.widen (k := 0) (n := 0) (Nat.le_of_ble_eq_true rfl) (Nat.le_of_ble_eq_true rfl) ?_
      obtain rfl := hq_3
      have hZ := hZ.ro hF_4
      refine W.eq (g2 := F0 m 12 ls [.int (nI (N 0 1)), .int (nI i)]) rfl ?_
      refine zz_ic_ge (tgt := 47) (by first | exact hB _ _ | exact hUa _ | exact hUb _ | exact hUc _ | exact hUd _ | omega) (by first | exact hB _ _ | exact hUa _ | exact hUb _ | exact hUc _ | exact hUd _ | omega) hx hb dX2_countSeatsGivenOn_12 (by decide) (fun c_6 => ?_) (fun c_6 => ?_)
      · skip
        obtain rfl : i = N 0 1 := by omega
        refine lv_iload_n hx hb dX2_countSeatsGivenOn_47 rfl (lv_at hl 1 rfl) ?_
        refine zz_iret hx hb hr hlocks hS (Nat.le_of_ble_eq_true rfl) (Nat.le_of_ble_eq_true rfl) dX2_countSeatsGivenOn_48 ?_
        first | rfl | (simp [c_6]; done) | (simp_all; done) | (split <;> first | rfl | omega | (simp_all; done); done)
      · skip
        refine lv_iload_n hx hb dX2_countSeatsGivenOn_15 rfl (lv_at hl 1 rfl) ?_
        refine lv_aload_n hx hb dX2_countSeatsGivenOn_16 rfl (lv_at hl 2 rfl) ?_
        refine zz_get (ci := 5) (C := RX2) (T := TX2) (N := 8) (v := .ref (ad 1 1)) hx hb hts hown hK (zx_ob hZ.W).1 rfl zf_X2 1 (by decide) zw_60 (fun _ h9 => h9) rfl dX2_countSeatsGivenOn_17 ?_
        refine lv_iload_n hx hb dX2_countSeatsGivenOn_20 rfl (lv_at hl 0 rfl) ?_
        have hj_7 : i < N 0 1 := by omega
        refine zz_after (pc := 21) rfl (zz_runV (ci := 2) (q0 := (RJx4a65c, TJx4a65c, 3)) (b := ad 1 1) (As := [.int (nI i)]) (rest := [.int (nI (zc (fun q => N 6 q = f + 1 ∧ (0 = 0 ∨ N 4 q + 1 = 0)) i))]) hx hb hml hown hts (c_Jx4a65c_get_915e3 l (K := K) (A := A) (ad := ad) (E := E) (cap := cap) (N := N) (G := G) (L := L) hk (by decide) (j := i) (r := (ad 5 i)) hj_7 (zx_g1 hj_7)) zw_101 zw_102 zw_103 zw_4 zw_104 zd_Jx4a65c_get_915e3 ⟨Nat.le_of_ble_eq_true rfl, Nat.le_of_ble_eq_true rfl⟩ hZ.E hZ.A (zx_li hZ.W (t := 1) (by decide)).1 rfl rfl hZ.W hl.1 (Nat.le_of_ble_eq_true rfl) dX2_countSeatsGivenOn_21 ⟨Nat.le_of_ble_eq_true rfl, Nat.le_of_ble_eq_true rfl⟩) hS (fun _ h => h.elim) (fun v_10 H locs hq_8 hF_9 hS => ?_)
        refine W.widen (k := 0) (n := 0) (Nat.le_of_ble_eq_true rfl) (Nat.le_of_ble_eq_true rfl) ?_
        obtain rfl := hq_8
        have hZ := hZ.ro hF_9
        refine W.eq (g2 := F0 m 24 ls [.ref (ad 5 i), .int (nI (zc (fun q => N 6 q = f + 1 ∧ (0 = 0 ∨ N 4 q + 1 = 0)) i))]) rfl ?_
        refine va_castS hx hb hown (hts _ zw_129) (hK.1 4 _ rfl).2 (zz_rc hK (zx_pe hZ.W (q := i) hj_7).1 rfl) dX2_countSeatsGivenOn_24 ?_
        refine zz_getN (ci := 4) (C := RX1) (T := TX1) (N := 7) (v := va_rf (zz_ro (ad 3) (N 6 i))) hx hb hts hN hown hK (zx_pe hZ.W (q := i) hj_7).1 rfl zf_X1 4 (by decide) zn_493 (fun _ h9 => h9) rfl dX2_countSeatsGivenOn_27 ?_
        refine lv_aload_n hx hb dX2_countSeatsGivenOn_30 rfl (lv_at hl 3 rfl) ?_
        refine zz_acmp_ne (rx := zz_ro (ad 3) (N 6 i)) (ry := some (ad 3 f)) (P := N 6 i = f + 1) (tgt := 38) (zx_seq hZ.W (by first | omega | exact (hI.st i hj_7)) hf) hx hb dX2_countSeatsGivenOn_31 (by decide) (fun c_11 => ?_) (fun c_11 => ?_)
        · skip
          refine zz_con 0 hx hb dX2_countSeatsGivenOn_38 (by decide) ?_
          refine zz_add hx hb dX2_countSeatsGivenOn_39 ?_
          refine lv_istore_n (lv' := [(2, .int (nI ((zc (fun q => N 6 q = f + 1 ∧ (0 = 0 ∨ N 4 q + 1 = 0)) i) + 0))), (3, .int (nI i)), (0, .ref (ad 0 0)), (1, .ref (ad 3 f))]) hx hb dX2_countSeatsGivenOn_40 rfl hl (Nat.le_of_ble_eq_true rfl) rfl (fun ls hl => ?_)
          refine zz_inc (k := 1) (lv' := [(3, .int (nI (i + 1))), (2, .int (nI ((zc (fun q => N 6 q = f + 1 ∧ (0 = 0 ∨ N 4 q + 1 = 0)) i) + 0))), (0, .ref (ad 0 0)), (1, .ref (ad 3 f))]) hx hb dX2_countSeatsGivenOn_41 hl rfl (Nat.le_of_ble_eq_true rfl) rfl (fun ls hl => ?_)
          refine lv_goto (tgt := 4) hx hb dX2_countSeatsGivenOn_44 (by decide) ?_
          refine ih_i (i + 1) (by omega) (by omega) _ _ _ ?_ hS ?_
          · exact hZ
          · skip
            rw [show (.int (nI (zc (fun q => N 6 q = f + 1 ∧ (0 = 0 ∨ N 4 q + 1 = 0)) (i + 1))) : Value) = .int (nI ((zc (fun q => N 6 q = f + 1 ∧ (0 = 0 ∨ N 4 q + 1 = 0)) i) + 0)) from congrArg Value.int (by first | rfl | ((rw [zc_t ⟨by assumption, Or.inl rfl⟩]); done) | ((rw [zc_f (fun h => absurd h.1 (by assumption))]); done))]
            exact lv_sub hl [0, 1, 2, 3] rfl
        · skip
          refine zz_con 1 hx hb dX2_countSeatsGivenOn_34 (by decide) ?_
          refine lv_goto (tgt := 39) hx hb dX2_countSeatsGivenOn_35 (by decide) ?_
          refine zz_add hx hb dX2_countSeatsGivenOn_39 ?_
          refine lv_istore_n (lv' := [(2, .int (nI ((zc (fun q => N 6 q = f + 1 ∧ (0 = 0 ∨ N 4 q + 1 = 0)) i) + 1))), (3, .int (nI i)), (0, .ref (ad 0 0)), (1, .ref (ad 3 f))]) hx hb dX2_countSeatsGivenOn_40 rfl hl (Nat.le_of_ble_eq_true rfl) rfl (fun ls hl => ?_)
          refine zz_inc (k := 1) (lv' := [(3, .int (nI (i + 1))), (2, .int (nI ((zc (fun q => N 6 q = f + 1 ∧ (0 = 0 ∨ N 4 q + 1 = 0)) i) + 1))), (0, .ref (ad 0 0)), (1, .ref (ad 3 f))]) hx hb dX2_countSeatsGivenOn_41 hl rfl (Nat.le_of_ble_eq_true rfl) rfl (fun ls hl => ?_)
          refine lv_goto (tgt := 4) hx hb dX2_countSeatsGivenOn_44 (by decide) ?_
          refine ih_i (i + 1) (by omega) (by omega) _ _ _ ?_ hS ?_
          · exact hZ
          · skip
            rw [show (.int (nI (zc (fun q => N 6 q = f + 1 ∧ (0 = 0 ∨ N 4 q + 1 = 0)) (i + 1))) : Value) = .int (nI ((zc (fun q => N 6 q = f + 1 ∧ (0 = 0 ∨ N 4 q + 1 = 0)) i) + 1)) from congrArg Value.int (by first | rfl | ((rw [zc_t ⟨by assumption, Or.inl rfl⟩]); done) | ((rw [zc_f (fun h => absurd h.1 (by assumption))]); done))]
            exact lv_sub hl [0, 1, 2, 3] rfl
  refine hL_2 (N 0 1 + 1) 0 (by first | omega | exact Nat.zero_le _) (by first | omega | (rw [Nat.zero_add]; exact Nat.lt_succ_self _)) _ _ _ hZ hS ?_
  exact lv_sub hl [0, 1, 2, 3] rfl

set_option maxHeartbeats 4000000 in
set_option maxRecDepth 100000 in
theorem c_X2_countTeamOn (l : Launch) {K : zz_G} {A : Nat → Prop} {ad : Nat → Nat → Nat} {E : Nat → Nat → Int32} {cap : Nat → Nat} {N : Nat → Nat → Nat} {G : Nat → Nat → Int32} {L : Nat → Int64} (hI : zq N) (hk : zk K ad cap N) {tm : Nat} (htm : tm < 2 ^ 30) {f : Nat} (hf : f < N 0 0) : zz_C l yX2_countTeamOn cX2_countTeamOn 6 (Option.some FieldType.int) ({ frames := 3, cells := 0, slots := 0, locals := 64 } : Room) K A [.ref (ad 0 0), .int (nI tm), .ref (ad 3 f)] (fun H => zz_W K A ad (zx_c K ad E cap N G L) H) (fun v9 _ _ => v9 = some (.int (nI (zsit N f (tm + 1))))) zz_nx zz_no := by
  refine zz_body (by decide +kernel) (Nat.le_of_ble_eq_true rfl) ?_
  intro p e s m below meth c ls hx hb hr hml hts hown hlocks hmn htab hE hA hP hl
  have hN := hE.N
  have hK := hE.K
  have hown : s.vm.findClass RX2 = some m.cls := hown
  have hl : lv_has ls 6 [(0, .ref (ad 0 0)), (1, .int (nI tm)), (2, .ref (ad 3 f))] := hl
  have hZ : zz_Z K A s ad (zx_c K ad E cap N G L) s.heap := ⟨hE, hA, hP⟩
  have hS : va_S zz_no s.heap s.heap [] := va_S.rf
  obtain ⟨H, hH⟩ : ∃ z, z = s.heap := ⟨_, rfl⟩
  have hS0 : va_S zz_no s.heap H [] := by rw [hH]; exact hS
  rw [← hH] at hZ
  have hE0 := hE
  clear hS
  have hS := hS0
  have hB := hI.B
  have hbk := hI.bk
  have h00 := hI.f
  have h01 := hI.p
  have h02 := hI.b
  have hk0 := hk 0 (by decide)
  have hk1 := hk 1 (by decide)
  have hk2 := hk 2 (by decide)
  show W p l e _ s m _ below meth c s.heap [] 0 0 _ (F0 m 0 ls [])
  rw [← hH]
  refine zz_con 0 hx hb dX2_countTeamOn_0 (by decide) ?_
  refine lv_istore_n (lv' := [(3, .int (nI 0)), (0, .ref (ad 0 0)), (1, .int (nI tm)), (2, .ref (ad 3 f))]) hx hb dX2_countTeamOn_1 rfl hl (Nat.le_of_ble_eq_true rfl) rfl (fun ls hl => ?_)
  refine zz_con 0 hx hb dX2_countTeamOn_2 (by decide) ?_
  refine lv_istore (lv' := [(4, .int (nI 0)), (3, .int (nI 0)), (0, .ref (ad 0 0)), (1, .int (nI tm)), (2, .ref (ad 3 f))]) hx hb dX2_countTeamOn_3 hl (Nat.le_of_ble_eq_true rfl) rfl (fun ls hl => ?_)
  have hL_2 : ∀ (k i : Nat), i ≤ N 0 1 → N 0 1 < i + k → ∀ (H : Heap) (locs : List Loc) (ls : Array Slot), zz_Z K A s ad (zx_c K ad E cap N G L) H → va_S zz_no s.heap H locs → lv_has ls 6 [(4, .int (nI i)), (3, .int (nI (zc (fun q => N 6 q = f + 1 ∧ (tm + 1 = 0 ∨ N 4 q + 1 = tm + 1)) i))), (0, .ref (ad 0 0)), (1, .int (nI tm)), (2, .ref (ad 3 f))] → W p l e ({ frames := 3, cells := 0, slots := 0, locals := 64 } : Room) s m ([.ref (ad 0 0), .int (nI tm), .ref (ad 3 f)] : List Value).toArray below meth c H locs 0 0 (vx_MQ below (zz_Qc (fun v9 _ _ => v9 = some (.int (nI (zsit N f (tm + 1))))) zz_no) (zz_XC zz_nx) ([.ref (ad 0 0), .int (nI tm), .ref (ad 3 f)] : List Value).toArray s ({ frames := 3, cells := 0, slots := 0, locals := 64 } : Room).cells ({ frames := 3, cells := 0, slots := 0, locals := 64 } : Room).slots zz_no) (F0 m 5 ls []) := by
    intro k
    induction k with
    | zero => intro i hi hik; omega
    | succ k ih_i =>
      intro i hii hiki H locs ls hZ hS hl
      refine lv_iload hx hb dX2_countTeamOn_5 (lv_at hl 0 rfl) ?_
      refine lv_aload_n hx hb dX2_countTeamOn_7 rfl (lv_at hl 2 rfl) ?_
      refine zz_get (ci := 5) (C := RX2) (T := TX2) (N := 8) (v := .ref (ad 1 1)) hx hb hts hown hK (zx_ob hZ.W).1 rfl zf_X2 1 (by decide) zw_60 (fun _ h9 => h9) rfl dX2_countTeamOn_8 ?_
      refine zz_after (pc := 11) rfl (zz_runV (ci := 2) (q0 := (RJx4a65c, TJx4a65c, 3)) (b := ad 1 1) (As := []) (rest := [.int (nI i)]) hx hb hml hown hts (c_Jx4a65c_size_8abf5 l (K := K) (A := A) (ad := ad) (E := E) (cap := cap) (N := N) (G := G) (L := L) hk (by decide)) zw_88 zw_89 zw_90 zw_4 zw_91 zd_Jx4a65c_size_8abf5 ⟨Nat.le_of_ble_eq_true rfl, Nat.le_of_ble_eq_true rfl⟩ hZ.E hZ.A (zx_li hZ.W (t := 1) (by decide)).1 rfl rfl hZ.W hl.1 (Nat.le_of_ble_eq_true rfl) dX2_countTeamOn_11 ⟨Nat.le_of_ble_eq_true rfl, Nat.le_of_ble_eq_true rfl⟩) hS (fun _ h => h.elim) (fun v_5 H locs hq_3 hF_4 hS => ?_)
      refine W.widen (k := 0) (n := 0) (Nat.le_of_ble_eq_true rfl) (Nat.le_of_ble_eq_true rfl) ?_
      obtain rfl := hq_3
      have hZ := hZ.ro hF_4
      refine W.eq (g2 := F0 m 14 ls [.int (nI (N 0 1)), .int (nI i)]) rfl ?_
      refine zz_ic_ge (tgt := 63) (by first | exact hB _ _ | exact hUa _ | exact hUb _ | exact hUc _ | exact hUd _ | omega) (by first | exact hB _ _ | exact hUa _ | exact hUb _ | exact hUc _ | exact hUd _ | omega) hx hb dX2_countTeamOn_14 (by decide) (fun c_6 => ?_) (fun c_6 => ?_)
      · skip
        obtain rfl : i = N 0 1 := by omega
        refine lv_iload_n hx hb dX2_countTeamOn_63 rfl (lv_at hl 1 rfl) ?_
        refine zz_iret hx hb hr hlocks hS (Nat.le_of_ble_eq_true rfl) (Nat.le_of_ble_eq_true rfl) dX2_countTeamOn_64 ?_
        first | rfl | (simp [c_6]; done) | (simp_all; done) | (split <;> first | rfl | omega | (simp_all; done); done)
      · skip
        refine lv_aload_n hx hb dX2_countTeamOn_17 rfl (lv_at hl 2 rfl) ?_
        refine zz_get (ci := 5) (C := RX2) (T := TX2) (N := 8) (v := .ref (ad 1 1)) hx hb hts hown hK (zx_ob hZ.W).1 rfl zf_X2 1 (by decide) zw_60 (fun _ h9 => h9) rfl dX2_countTeamOn_18 ?_
        refine lv_iload hx hb dX2_countTeamOn_21 (lv_at hl 0 rfl) ?_
        have hj_7 : i < N 0 1 := by omega
        refine zz_after (pc := 23) rfl (zz_runV (ci := 2) (q0 := (RJx4a65c, TJx4a65c, 3)) (b := ad 1 1) (As := [.int (nI i)]) (rest := []) hx hb hml hown hts (c_Jx4a65c_get_915e3 l (K := K) (A := A) (ad := ad) (E := E) (cap := cap) (N := N) (G := G) (L := L) hk (by decide) (j := i) (r := (ad 5 i)) hj_7 (zx_g1 hj_7)) zw_101 zw_102 zw_103 zw_4 zw_104 zd_Jx4a65c_get_915e3 ⟨Nat.le_of_ble_eq_true rfl, Nat.le_of_ble_eq_true rfl⟩ hZ.E hZ.A (zx_li hZ.W (t := 1) (by decide)).1 rfl rfl hZ.W hl.1 (Nat.le_of_ble_eq_true rfl) dX2_countTeamOn_23 ⟨Nat.le_of_ble_eq_true rfl, Nat.le_of_ble_eq_true rfl⟩) hS (fun _ h => h.elim) (fun v_10 H locs hq_8 hF_9 hS => ?_)
        refine W.widen (k := 0) (n := 0) (Nat.le_of_ble_eq_true rfl) (Nat.le_of_ble_eq_true rfl) ?_
        obtain rfl := hq_8
        have hZ := hZ.ro hF_9
        refine W.eq (g2 := F0 m 26 ls [.ref (ad 5 i)]) rfl ?_
        refine va_castS hx hb hown (hts _ zw_129) (hK.1 4 _ rfl).2 (zz_rc hK (zx_pe hZ.W (q := i) hj_7).1 rfl) dX2_countTeamOn_26 ?_
        refine lv_astore (lv' := [(5, .ref (ad 5 i)), (4, .int (nI i)), (3, .int (nI (zc (fun q => N 6 q = f + 1 ∧ (tm + 1 = 0 ∨ N 4 q + 1 = tm + 1)) i))), (0, .ref (ad 0 0)), (1, .int (nI tm)), (2, .ref (ad 3 f))]) hx hb dX2_countTeamOn_29 hl (Nat.le_of_ble_eq_true rfl) rfl (fun ls hl => ?_)
        refine lv_iload_n hx hb dX2_countTeamOn_31 rfl (lv_at hl 2 rfl) ?_
        refine lv_aload hx hb dX2_countTeamOn_32 (lv_at hl 0 rfl) ?_
        refine zz_getN (ci := 4) (C := RX1) (T := TX1) (N := 7) (v := va_rf (zz_ro (ad 3) (N 6 i))) hx hb hts hN hown hK (zx_pe hZ.W (q := i) hj_7).1 rfl zf_X1 4 (by decide) zn_493 (fun _ h9 => h9) rfl dX2_countTeamOn_34 ?_
        refine lv_aload_n hx hb dX2_countTeamOn_37 rfl (lv_at hl 5 rfl) ?_
        refine zz_acmp_ne (rx := zz_ro (ad 3) (N 6 i)) (ry := some (ad 3 f)) (P := N 6 i = f + 1) (tgt := 54) (zx_seq hZ.W (by first | omega | exact (hI.st i hj_7)) hf) hx hb dX2_countTeamOn_38 (by decide) (fun c_11 => ?_) (fun c_11 => ?_)
        · skip
          refine zz_con 0 hx hb dX2_countTeamOn_54 (by decide) ?_
          refine zz_add hx hb dX2_countTeamOn_55 ?_
          refine lv_istore_n (lv' := [(3, .int (nI ((zc (fun q => N 6 q = f + 1 ∧ (tm + 1 = 0 ∨ N 4 q + 1 = tm + 1)) i) + 0))), (5, .ref (ad 5 i)), (4, .int (nI i)), (0, .ref (ad 0 0)), (1, .int (nI tm)), (2, .ref (ad 3 f))]) hx hb dX2_countTeamOn_56 rfl hl (Nat.le_of_ble_eq_true rfl) rfl (fun ls hl => ?_)
          refine zz_inc (k := 2) (lv' := [(4, .int (nI (i + 1))), (3, .int (nI ((zc (fun q => N 6 q = f + 1 ∧ (tm + 1 = 0 ∨ N 4 q + 1 = tm + 1)) i) + 0))), (5, .ref (ad 5 i)), (0, .ref (ad 0 0)), (1, .int (nI tm)), (2, .ref (ad 3 f))]) hx hb dX2_countTeamOn_57 hl rfl (Nat.le_of_ble_eq_true rfl) rfl (fun ls hl => ?_)
          refine lv_goto (tgt := 5) hx hb dX2_countTeamOn_60 (by decide) ?_
          refine ih_i (i + 1) (by omega) (by omega) _ _ _ ?_ hS ?_
          · exact hZ
          · skip
            rw [show (.int (nI (zc (fun q => N 6 q = f + 1 ∧ (tm + 1 = 0 ∨ N 4 q + 1 = tm + 1)) (i + 1))) : Value) = .int (nI ((zc (fun q => N 6 q = f + 1 ∧ (tm + 1 = 0 ∨ N 4 q + 1 = tm + 1)) i) + 0)) from congrArg Value.int (by first | rfl | ((rw [zc_t ⟨by assumption, Or.inr (by omega)⟩]); done) | ((rw [zc_f (fun h => by have := h.1; have := h.2; omega)]); done))]
            exact lv_sub hl [0, 1, 3, 4, 5] rfl
        · skip
          refine lv_aload hx hb dX2_countTeamOn_41 (lv_at hl 0 rfl) ?_
          refine zz_getN (ci := 4) (C := RX1) (T := TX1) (N := 7) (v := .int (nI (N 4 i))) hx hb hts hN hown hK (zx_pe hZ.W (q := i) hj_7).1 rfl zf_X1 1 (by decide) zn_487 (fun _ h9 => h9) rfl dX2_countTeamOn_43 ?_
          refine lv_iload_n hx hb dX2_countTeamOn_46 rfl (lv_at hl 4 rfl) ?_
          refine zz_ic_ne (tgt := 54) (by first | exact hB _ _ | exact hUa _ | exact hUb _ | exact hUc _ | exact hUd _ | omega) (by first | exact hB _ _ | exact hUa _ | exact hUb _ | exact hUc _ | exact hUd _ | omega) hx hb dX2_countTeamOn_47 (by decide) (fun c_12 => ?_) (fun c_12 => ?_)
          · skip
            refine zz_con 0 hx hb dX2_countTeamOn_54 (by decide) ?_
            refine zz_add hx hb dX2_countTeamOn_55 ?_
            refine lv_istore_n (lv' := [(3, .int (nI ((zc (fun q => N 6 q = f + 1 ∧ (tm + 1 = 0 ∨ N 4 q + 1 = tm + 1)) i) + 0))), (5, .ref (ad 5 i)), (4, .int (nI i)), (0, .ref (ad 0 0)), (1, .int (nI tm)), (2, .ref (ad 3 f))]) hx hb dX2_countTeamOn_56 rfl hl (Nat.le_of_ble_eq_true rfl) rfl (fun ls hl => ?_)
            refine zz_inc (k := 2) (lv' := [(4, .int (nI (i + 1))), (3, .int (nI ((zc (fun q => N 6 q = f + 1 ∧ (tm + 1 = 0 ∨ N 4 q + 1 = tm + 1)) i) + 0))), (5, .ref (ad 5 i)), (0, .ref (ad 0 0)), (1, .int (nI tm)), (2, .ref (ad 3 f))]) hx hb dX2_countTeamOn_57 hl rfl (Nat.le_of_ble_eq_true rfl) rfl (fun ls hl => ?_)
            refine lv_goto (tgt := 5) hx hb dX2_countTeamOn_60 (by decide) ?_
            refine ih_i (i + 1) (by omega) (by omega) _ _ _ ?_ hS ?_
            · exact hZ
            · skip
              rw [show (.int (nI (zc (fun q => N 6 q = f + 1 ∧ (tm + 1 = 0 ∨ N 4 q + 1 = tm + 1)) (i + 1))) : Value) = .int (nI ((zc (fun q => N 6 q = f + 1 ∧ (tm + 1 = 0 ∨ N 4 q + 1 = tm + 1)) i) + 0)) from congrArg Value.int (by first | rfl | ((rw [zc_t ⟨by assumption, Or.inr (by omega)⟩]); done) | ((rw [zc_f (fun h => by have := h.1; have := h.2; omega)]); done))]
              exact lv_sub hl [0, 1, 3, 4, 5] rfl
          · skip
            refine zz_con 1 hx hb dX2_countTeamOn_50 (by decide) ?_
            refine lv_goto (tgt := 55) hx hb dX2_countTeamOn_51 (by decide) ?_
            refine zz_add hx hb dX2_countTeamOn_55 ?_
            refine lv_istore_n (lv' := [(3, .int (nI ((zc (fun q => N 6 q = f + 1 ∧ (tm + 1 = 0 ∨ N 4 q + 1 = tm + 1)) i) + 1))), (5, .ref (ad 5 i)), (4, .int (nI i)), (0, .ref (ad 0 0)), (1, .int (nI tm)), (2, .ref (ad 3 f))]) hx hb dX2_countTeamOn_56 rfl hl (Nat.le_of_ble_eq_true rfl) rfl (fun ls hl => ?_)
            refine zz_inc (k := 2) (lv' := [(4, .int (nI (i + 1))), (3, .int (nI ((zc (fun q => N 6 q = f + 1 ∧ (tm + 1 = 0 ∨ N 4 q + 1 = tm + 1)) i) + 1))), (5, .ref (ad 5 i)), (0, .ref (ad 0 0)), (1, .int (nI tm)), (2, .ref (ad 3 f))]) hx hb dX2_countTeamOn_57 hl rfl (Nat.le_of_ble_eq_true rfl) rfl (fun ls hl => ?_)
            refine lv_goto (tgt := 5) hx hb dX2_countTeamOn_60 (by decide) ?_
            refine ih_i (i + 1) (by omega) (by omega) _ _ _ ?_ hS ?_
            · exact hZ
            · skip
              rw [show (.int (nI (zc (fun q => N 6 q = f + 1 ∧ (tm + 1 = 0 ∨ N 4 q + 1 = tm + 1)) (i + 1))) : Value) = .int (nI ((zc (fun q => N 6 q = f + 1 ∧ (tm + 1 = 0 ∨ N 4 q + 1 = tm + 1)) i) + 1)) from congrArg Value.int (by first | rfl | ((rw [zc_t ⟨by assumption, Or.inr (by omega)⟩]); done) | ((rw [zc_f (fun h => by have := h.1; have := h.2; omega)]); done))]
              exact lv_sub hl [0, 1, 3, 4, 5] rfl
  refine hL_2 (N 0 1 + 1) 0 (by first | omega | exact Nat.zero_le _) (by first | omega | (rw [Nat.zero_add]; exact Nat.lt_succ_self _)) _ _ _ hZ hS ?_
  exact lv_sub hl [0, 1, 2, 3, 4] rfl

set_option maxHeartbeats 4000000 in
set_option maxRecDepth 100000 in
theorem c_X2_countPresentOn (l : Launch) {K : zz_G} {A : Nat → Prop} {ad : Nat → Nat → Nat} {E : Nat → Nat → Int32} {cap : Nat → Nat} {N : Nat → Nat → Nat} {G : Nat → Nat → Int32} {L : Nat → Int64} (hI : zq N) (hk : zk K ad cap N) {f : Nat} (hf : f < N 0 0) : zz_C l yX2_countPresentOn cX2_countPresentOn 5 (Option.some FieldType.int) ({ frames := 3, cells := 0, slots := 0, locals := 64 } : Room) K A [.ref (ad 0 0), .ref (ad 3 f)] (fun H => zz_W K A ad (zx_c K ad E cap N G L) H) (fun v9 _ _ => v9 = some (.int (nI (zins N f)))) zz_nx zz_no := by
  refine zz_body (by decide +kernel) (Nat.le_of_ble_eq_true rfl) ?_
  intro p e s m below meth c ls hx hb hr hml hts hown hlocks hmn htab hE hA hP hl
  have hN := hE.N
  have hK := hE.K
  have hown : s.vm.findClass RX2 = some m.cls := hown
  have hl : lv_has ls 5 [(0, .ref (ad 0 0)), (1, .ref (ad 3 f))] := hl
  have hZ : zz_Z K A s ad (zx_c K ad E cap N G L) s.heap := ⟨hE, hA, hP⟩
  have hS : va_S zz_no s.heap s.heap [] := va_S.rf
  obtain ⟨H, hH⟩ : ∃ z, z = s.heap := ⟨_, rfl⟩
  have hS0 : va_S zz_no s.heap H [] := by rw [hH]; exact hS
  rw [← hH] at hZ
  have hE0 := hE
  clear hS
  have hS := hS0
  have hB := hI.B
  have hbk := hI.bk
  have h00 := hI.f
  have h01 := hI.p
  have h02 := hI.b
  have hk0 := hk 0 (by decide)
  have hk1 := hk 1 (by decide)
  have hk2 := hk 2 (by decide)
  show W p l e _ s m _ below meth c s.heap [] 0 0 _ (F0 m 0 ls [])
  rw [← hH]
  refine zz_con 0 hx hb dX2_countPresentOn_0 (by decide) ?_
  refine lv_istore_n (lv' := [(2, .int (nI 0)), (0, .ref (ad 0 0)), (1, .ref (ad 3 f))]) hx hb dX2_countPresentOn_1 rfl hl (Nat.le_of_ble_eq_true rfl) rfl (fun ls hl => ?_)
  refine zz_con 0 hx hb dX2_countPresentOn_2 (by decide) ?_
  refine lv_istore_n (lv' := [(3, .int (nI 0)), (2, .int (nI 0)), (0, .ref (ad 0 0)), (1, .ref (ad 3 f))]) hx hb dX2_countPresentOn_3 rfl hl (Nat.le_of_ble_eq_true rfl) rfl (fun ls hl => ?_)
  have hL_2 : ∀ (k i : Nat), i ≤ N 0 1 → N 0 1 < i + k → ∀ (H : Heap) (locs : List Loc) (ls : Array Slot), zz_Z K A s ad (zx_c K ad E cap N G L) H → va_S zz_no s.heap H locs → lv_has ls 5 [(3, .int (nI i)), (2, .int (nI (zc (fun q => N 7 q ≠ 0 ∧ N 6 q = f + 1) i))), (0, .ref (ad 0 0)), (1, .ref (ad 3 f))] → W p l e ({ frames := 3, cells := 0, slots := 0, locals := 64 } : Room) s m ([.ref (ad 0 0), .ref (ad 3 f)] : List Value).toArray below meth c H locs 0 0 (vx_MQ below (zz_Qc (fun v9 _ _ => v9 = some (.int (nI (zins N f)))) zz_no) (zz_XC zz_nx) ([.ref (ad 0 0), .ref (ad 3 f)] : List Value).toArray s ({ frames := 3, cells := 0, slots := 0, locals := 64 } : Room).cells ({ frames := 3, cells := 0, slots := 0, locals := 64 } : Room).slots zz_no) (F0 m 4 ls []) := by
    intro k
    induction k with
    | zero => intro i hi hik; omega
    | succ k ih_i =>
      intro i hii hiki H locs ls hZ hS hl
      refine lv_iload_n hx hb dX2_countPresentOn_4 rfl (lv_at hl 0 rfl) ?_
      refine lv_aload_n hx hb dX2_countPresentOn_5 rfl (lv_at hl 2 rfl) ?_
      refine zz_get (ci := 5) (C := RX2) (T := TX2) (N := 8) (v := .ref (ad 1 1)) hx hb hts hown hK (zx_ob hZ.W).1 rfl zf_X2 1 (by decide) zw_60 (fun _ h9 => h9) rfl dX2_countPresentOn_6 ?_
      refine zz_after (pc := 9) rfl (zz_runV (ci := 2) (q0 := (RJx4a65c, TJx4a65c, 3)) (b := ad 1 1) (As := []) (rest := [.int (nI i)]) hx hb hml hown hts (c_Jx4a65c_size_8abf5 l (K := K) (A := A) (ad := ad) (E := E) (cap := cap) (N := N) (G := G) (L := L) hk (by decide)) zw_88 zw_89 zw_90 zw_4 zw_91 zd_Jx4a65c_size_8abf5 ⟨Nat.le_of_ble_eq_true rfl, Nat.le_of_ble_eq_true rfl⟩ hZ.E hZ.A (zx_li hZ.W (t := 1) (by decide)).1 rfl rfl hZ.W hl.1 (Nat.le_of_ble_eq_true rfl) dX2_countPresentOn_9 ⟨Nat.le_of_ble_eq_true rfl, Nat.le_of_ble_eq_true rfl⟩) hS (fun _ h => h.elim) (fun v_5 H locs hq_3 hF_4 hS => ?_)
      refine W.widen (k := 0) (n := 0) (Nat.le_of_ble_eq_true rfl) (Nat.le_of_ble_eq_true rfl) ?_
      obtain rfl := hq_3
      have hZ := hZ.ro hF_4
      refine W.eq (g2 := F0 m 12 ls [.int (nI (N 0 1)), .int (nI i)]) rfl ?_
      refine zz_ic_ge (tgt := 59) (by first | exact hB _ _ | exact hUa _ | exact hUb _ | exact hUc _ | exact hUd _ | omega) (by first | exact hB _ _ | exact hUa _ | exact hUb _ | exact hUc _ | exact hUd _ | omega) hx hb dX2_countPresentOn_12 (by decide) (fun c_6 => ?_) (fun c_6 => ?_)
      · skip
        obtain rfl : i = N 0 1 := by omega
        refine lv_iload_n hx hb dX2_countPresentOn_59 rfl (lv_at hl 1 rfl) ?_
        refine zz_iret hx hb hr hlocks hS (Nat.le_of_ble_eq_true rfl) (Nat.le_of_ble_eq_true rfl) dX2_countPresentOn_60 ?_
        first | rfl | (simp [c_6]; done) | (simp_all; done) | (split <;> first | rfl | omega | (simp_all; done); done)
      · skip
        refine lv_aload_n hx hb dX2_countPresentOn_15 rfl (lv_at hl 2 rfl) ?_
        refine zz_get (ci := 5) (C := RX2) (T := TX2) (N := 8) (v := .ref (ad 1 1)) hx hb hts hown hK (zx_ob hZ.W).1 rfl zf_X2 1 (by decide) zw_60 (fun _ h9 => h9) rfl dX2_countPresentOn_16 ?_
        refine lv_iload_n hx hb dX2_countPresentOn_19 rfl (lv_at hl 0 rfl) ?_
        have hj_7 : i < N 0 1 := by omega
        refine zz_after (pc := 20) rfl (zz_runV (ci := 2) (q0 := (RJx4a65c, TJx4a65c, 3)) (b := ad 1 1) (As := [.int (nI i)]) (rest := []) hx hb hml hown hts (c_Jx4a65c_get_915e3 l (K := K) (A := A) (ad := ad) (E := E) (cap := cap) (N := N) (G := G) (L := L) hk (by decide) (j := i) (r := (ad 5 i)) hj_7 (zx_g1 hj_7)) zw_101 zw_102 zw_103 zw_4 zw_104 zd_Jx4a65c_get_915e3 ⟨Nat.le_of_ble_eq_true rfl, Nat.le_of_ble_eq_true rfl⟩ hZ.E hZ.A (zx_li hZ.W (t := 1) (by decide)).1 rfl rfl hZ.W hl.1 (Nat.le_of_ble_eq_true rfl) dX2_countPresentOn_20 ⟨Nat.le_of_ble_eq_true rfl, Nat.le_of_ble_eq_true rfl⟩) hS (fun _ h => h.elim) (fun v_10 H locs hq_8 hF_9 hS => ?_)
        refine W.widen (k := 0) (n := 0) (Nat.le_of_ble_eq_true rfl) (Nat.le_of_ble_eq_true rfl) ?_
        obtain rfl := hq_8
        have hZ := hZ.ro hF_9
        refine W.eq (g2 := F0 m 23 ls [.ref (ad 5 i)]) rfl ?_
        refine va_castS hx hb hown (hts _ zw_129) (hK.1 4 _ rfl).2 (zz_rc hK (zx_pe hZ.W (q := i) hj_7).1 rfl) dX2_countPresentOn_23 ?_
        refine lv_astore (lv' := [(4, .ref (ad 5 i)), (3, .int (nI i)), (2, .int (nI (zc (fun q => N 7 q ≠ 0 ∧ N 6 q = f + 1) i))), (0, .ref (ad 0 0)), (1, .ref (ad 3 f))]) hx hb dX2_countPresentOn_26 hl (Nat.le_of_ble_eq_true rfl) rfl (fun ls hl => ?_)
        refine lv_iload_n hx hb dX2_countPresentOn_28 rfl (lv_at hl 2 rfl) ?_
        refine lv_aload hx hb dX2_countPresentOn_29 (lv_at hl 0 rfl) ?_
        refine zz_getN (ci := 4) (C := RX1) (T := TX1) (N := 7) (v := va_rf (zz_ro (ad 3) (N 6 i))) hx hb hts hN hown hK (zx_pe hZ.W (q := i) hj_7).1 rfl zf_X1 4 (by decide) zn_493 (fun _ h9 => h9) rfl dX2_countPresentOn_31 ?_
        refine lv_aload_n hx hb dX2_countPresentOn_34 rfl (lv_at hl 4 rfl) ?_
        refine zz_acmp_ne (rx := zz_ro (ad 3) (N 6 i)) (ry := some (ad 3 f)) (P := N 6 i = f + 1) (tgt := 50) (zx_seq hZ.W (by first | omega | exact (hI.st i hj_7)) hf) hx hb dX2_countPresentOn_35 (by decide) (fun c_11 => ?_) (fun c_11 => ?_)
        · skip
          refine zz_con 0 hx hb dX2_countPresentOn_50 (by decide) ?_
          refine zz_add hx hb dX2_countPresentOn_51 ?_
          refine lv_istore_n (lv' := [(2, .int (nI ((zc (fun q => N 7 q ≠ 0 ∧ N 6 q = f + 1) i) + 0))), (4, .ref (ad 5 i)), (3, .int (nI i)), (0, .ref (ad 0 0)), (1, .ref (ad 3 f))]) hx hb dX2_countPresentOn_52 rfl hl (Nat.le_of_ble_eq_true rfl) rfl (fun ls hl => ?_)
          refine zz_inc (k := 2) (lv' := [(3, .int (nI (i + 1))), (2, .int (nI ((zc (fun q => N 7 q ≠ 0 ∧ N 6 q = f + 1) i) + 0))), (4, .ref (ad 5 i)), (0, .ref (ad 0 0)), (1, .ref (ad 3 f))]) hx hb dX2_countPresentOn_53 hl rfl (Nat.le_of_ble_eq_true rfl) rfl (fun ls hl => ?_)
          refine lv_goto (tgt := 4) hx hb dX2_countPresentOn_56 (by decide) ?_
          refine ih_i (i + 1) (by omega) (by omega) _ _ _ ?_ hS ?_
          · exact hZ
          · skip
            rw [show (.int (nI (zc (fun q => N 7 q ≠ 0 ∧ N 6 q = f + 1) (i + 1))) : Value) = .int (nI ((zc (fun q => N 7 q ≠ 0 ∧ N 6 q = f + 1) i) + 0)) from congrArg Value.int (by first | rfl | ((rw [zc_t (by assumption)]); done) | ((rw [zc_f (by assumption)]); done) | ((rw [zc_t ⟨by assumption, by assumption⟩]); done) | ((rw [zc_f (fun h => by have := h.1; have := h.2; omega)]); done) | ((rw [zc_f (fun h => absurd h.1 (by assumption))]); done) | ((rw [zc_f (fun h => absurd h.2 (by assumption))]); done))]
            exact lv_sub hl [0, 1, 3, 4] rfl
        · skip
          refine lv_aload hx hb dX2_countPresentOn_38 (lv_at hl 0 rfl) ?_
          refine zz_getN (ci := 4) (C := RX1) (T := TX1) (N := 7) (v := .int (nI (N 7 i))) hx hb hts hN hown hK (zx_pe hZ.W (q := i) hj_7).1 rfl zf_X1 5 (by decide) zn_495 (fun _ h9 => h9) rfl dX2_countPresentOn_40 ?_
          refine zz_if_eq (tgt := 50) (by first | exact hB _ _ | exact hUa _ | exact hUb _ | exact hUc _ | exact hUd _ | omega) hx hb dX2_countPresentOn_43 (by decide) (fun c_12 => ?_) (fun c_12 => ?_)
          · skip
            refine zz_con 0 hx hb dX2_countPresentOn_50 (by decide) ?_
            refine zz_add hx hb dX2_countPresentOn_51 ?_
            refine lv_istore_n (lv' := [(2, .int (nI ((zc (fun q => N 7 q ≠ 0 ∧ N 6 q = f + 1) i) + 0))), (4, .ref (ad 5 i)), (3, .int (nI i)), (0, .ref (ad 0 0)), (1, .ref (ad 3 f))]) hx hb dX2_countPresentOn_52 rfl hl (Nat.le_of_ble_eq_true rfl) rfl (fun ls hl => ?_)
            refine zz_inc (k := 2) (lv' := [(3, .int (nI (i + 1))), (2, .int (nI ((zc (fun q => N 7 q ≠ 0 ∧ N 6 q = f + 1) i) + 0))), (4, .ref (ad 5 i)), (0, .ref (ad 0 0)), (1, .ref (ad 3 f))]) hx hb dX2_countPresentOn_53 hl rfl (Nat.le_of_ble_eq_true rfl) rfl (fun ls hl => ?_)
            refine lv_goto (tgt := 4) hx hb dX2_countPresentOn_56 (by decide) ?_
            refine ih_i (i + 1) (by omega) (by omega) _ _ _ ?_ hS ?_
            · exact hZ
            · skip
              rw [show (.int (nI (zc (fun q => N 7 q ≠ 0 ∧ N 6 q = f + 1) (i + 1))) : Value) = .int (nI ((zc (fun q => N 7 q ≠ 0 ∧ N 6 q = f + 1) i) + 0)) from congrArg Value.int (by first | rfl | ((rw [zc_t (by assumption)]); done) | ((rw [zc_f (by assumption)]); done) | ((rw [zc_t ⟨by assumption, by assumption⟩]); done) | ((rw [zc_f (fun h => by have := h.1; have := h.2; omega)]); done) | ((rw [zc_f (fun h => absurd h.1 (by assumption))]); done) | ((rw [zc_f (fun h => absurd h.2 (by assumption))]); done))]
              exact lv_sub hl [0, 1, 3, 4] rfl
          · skip
            refine zz_con 1 hx hb dX2_countPresentOn_46 (by decide) ?_
            refine lv_goto (tgt := 51) hx hb dX2_countPresentOn_47 (by decide) ?_
            refine zz_add hx hb dX2_countPresentOn_51 ?_
            refine lv_istore_n (lv' := [(2, .int (nI ((zc (fun q => N 7 q ≠ 0 ∧ N 6 q = f + 1) i) + 1))), (4, .ref (ad 5 i)), (3, .int (nI i)), (0, .ref (ad 0 0)), (1, .ref (ad 3 f))]) hx hb dX2_countPresentOn_52 rfl hl (Nat.le_of_ble_eq_true rfl) rfl (fun ls hl => ?_)
            refine zz_inc (k := 2) (lv' := [(3, .int (nI (i + 1))), (2, .int (nI ((zc (fun q => N 7 q ≠ 0 ∧ N 6 q = f + 1) i) + 1))), (4, .ref (ad 5 i)), (0, .ref (ad 0 0)), (1, .ref (ad 3 f))]) hx hb dX2_countPresentOn_53 hl rfl (Nat.le_of_ble_eq_true rfl) rfl (fun ls hl => ?_)
            refine lv_goto (tgt := 4) hx hb dX2_countPresentOn_56 (by decide) ?_
            refine ih_i (i + 1) (by omega) (by omega) _ _ _ ?_ hS ?_
            · exact hZ
            · skip
              rw [show (.int (nI (zc (fun q => N 7 q ≠ 0 ∧ N 6 q = f + 1) (i + 1))) : Value) = .int (nI ((zc (fun q => N 7 q ≠ 0 ∧ N 6 q = f + 1) i) + 1)) from congrArg Value.int (by first | rfl | ((rw [zc_t (by assumption)]); done) | ((rw [zc_f (by assumption)]); done) | ((rw [zc_t ⟨by assumption, by assumption⟩]); done) | ((rw [zc_f (fun h => by have := h.1; have := h.2; omega)]); done) | ((rw [zc_f (fun h => absurd h.1 (by assumption))]); done) | ((rw [zc_f (fun h => absurd h.2 (by assumption))]); done))]
              exact lv_sub hl [0, 1, 3, 4] rfl
  refine hL_2 (N 0 1 + 1) 0 (by first | omega | exact Nat.zero_le _) (by first | omega | (rw [Nat.zero_add]; exact Nat.lt_succ_self _)) _ _ _ hZ hS ?_
  exact lv_sub hl [0, 1, 2, 3] rfl

set_option maxHeartbeats 4000000 in
set_option maxRecDepth 100000 in
theorem c_X2_countGuestsOf (l : Launch) {K : zz_G} {A : Nat → Prop} {ad : Nat → Nat → Nat} {E : Nat → Nat → Int32} {cap : Nat → Nat} {N : Nat → Nat → Nat} {G : Nat → Nat → Int32} {L : Nat → Int64} (hI : zq N) (hk : zk K ad cap N) {f : Nat} (hf : f < N 0 0) : zz_C l yX2_countGuestsOf cX2_countGuestsOf 5 (Option.some FieldType.int) ({ frames := 3, cells := 0, slots := 0, locals := 64 } : Room) K A [.ref (ad 0 0), .ref (ad 3 f)] (fun H => zz_W K A ad (zx_c K ad E cap N G L) H) (fun v9 _ _ => v9 = some (.int (nI (zgc N f)))) zz_nx zz_no := by
  refine zz_body (by decide +kernel) (Nat.le_of_ble_eq_true rfl) ?_
  intro p e s m below meth c ls hx hb hr hml hts hown hlocks hmn htab hE hA hP hl
  have hN := hE.N
  have hK := hE.K
  have hown : s.vm.findClass RX2 = some m.cls := hown
  have hl : lv_has ls 5 [(0, .ref (ad 0 0)), (1, .ref (ad 3 f))] := hl
  have hZ : zz_Z K A s ad (zx_c K ad E cap N G L) s.heap := ⟨hE, hA, hP⟩
  have hS : va_S zz_no s.heap s.heap [] := va_S.rf
  obtain ⟨H, hH⟩ : ∃ z, z = s.heap := ⟨_, rfl⟩
  have hS0 : va_S zz_no s.heap H [] := by rw [hH]; exact hS
  rw [← hH] at hZ
  have hE0 := hE
  clear hS
  have hS := hS0
  have hB := hI.B
  have hbk := hI.bk
  have h00 := hI.f
  have h01 := hI.p
  have h02 := hI.b
  have hk0 := hk 0 (by decide)
  have hk1 := hk 1 (by decide)
  have hk2 := hk 2 (by decide)
  show W p l e _ s m _ below meth c s.heap [] 0 0 _ (F0 m 0 ls [])
  rw [← hH]
  refine zz_con 0 hx hb dX2_countGuestsOf_0 (by decide) ?_
  refine lv_istore_n (lv' := [(2, .int (nI 0)), (0, .ref (ad 0 0)), (1, .ref (ad 3 f))]) hx hb dX2_countGuestsOf_1 rfl hl (Nat.le_of_ble_eq_true rfl) rfl (fun ls hl => ?_)
  refine zz_con 0 hx hb dX2_countGuestsOf_2 (by decide) ?_
  refine lv_istore_n (lv' := [(3, .int (nI 0)), (2, .int (nI 0)), (0, .ref (ad 0 0)), (1, .ref (ad 3 f))]) hx hb dX2_countGuestsOf_3 rfl hl (Nat.le_of_ble_eq_true rfl) rfl (fun ls hl => ?_)
  have hL_2 : ∀ (k i : Nat), i ≤ N 0 1 → N 0 1 < i + k → ∀ (H : Heap) (locs : List Loc) (ls : Array Slot), zz_Z K A s ad (zx_c K ad E cap N G L) H → va_S zz_no s.heap H locs → lv_has ls 5 [(3, .int (nI i)), (2, .int (nI (zc (fun q => N 6 q = f + 1 ∧ N 8 q ≠ 0) i))), (0, .ref (ad 0 0)), (1, .ref (ad 3 f))] → W p l e ({ frames := 3, cells := 0, slots := 0, locals := 64 } : Room) s m ([.ref (ad 0 0), .ref (ad 3 f)] : List Value).toArray below meth c H locs 0 0 (vx_MQ below (zz_Qc (fun v9 _ _ => v9 = some (.int (nI (zgc N f)))) zz_no) (zz_XC zz_nx) ([.ref (ad 0 0), .ref (ad 3 f)] : List Value).toArray s ({ frames := 3, cells := 0, slots := 0, locals := 64 } : Room).cells ({ frames := 3, cells := 0, slots := 0, locals := 64 } : Room).slots zz_no) (F0 m 4 ls []) := by
    intro k
    induction k with
    | zero => intro i hi hik; omega
    | succ k ih_i =>
      intro i hii hiki H locs ls hZ hS hl
      refine lv_iload_n hx hb dX2_countGuestsOf_4 rfl (lv_at hl 0 rfl) ?_
      refine lv_aload_n hx hb dX2_countGuestsOf_5 rfl (lv_at hl 2 rfl) ?_
      refine zz_get (ci := 5) (C := RX2) (T := TX2) (N := 8) (v := .ref (ad 1 1)) hx hb hts hown hK (zx_ob hZ.W).1 rfl zf_X2 1 (by decide) zw_60 (fun _ h9 => h9) rfl dX2_countGuestsOf_6 ?_
      refine zz_after (pc := 9) rfl (zz_runV (ci := 2) (q0 := (RJx4a65c, TJx4a65c, 3)) (b := ad 1 1) (As := []) (rest := [.int (nI i)]) hx hb hml hown hts (c_Jx4a65c_size_8abf5 l (K := K) (A := A) (ad := ad) (E := E) (cap := cap) (N := N) (G := G) (L := L) hk (by decide)) zw_88 zw_89 zw_90 zw_4 zw_91 zd_Jx4a65c_size_8abf5 ⟨Nat.le_of_ble_eq_true rfl, Nat.le_of_ble_eq_true rfl⟩ hZ.E hZ.A (zx_li hZ.W (t := 1) (by decide)).1 rfl rfl hZ.W hl.1 (Nat.le_of_ble_eq_true rfl) dX2_countGuestsOf_9 ⟨Nat.le_of_ble_eq_true rfl, Nat.le_of_ble_eq_true rfl⟩) hS (fun _ h => h.elim) (fun v_5 H locs hq_3 hF_4 hS => ?_)
      refine W.widen (k := 0) (n := 0) (Nat.le_of_ble_eq_true rfl) (Nat.le_of_ble_eq_true rfl) ?_
      obtain rfl := hq_3
      have hZ := hZ.ro hF_4
      refine W.eq (g2 := F0 m 12 ls [.int (nI (N 0 1)), .int (nI i)]) rfl ?_
      refine zz_ic_ge (tgt := 59) (by first | exact hB _ _ | exact hUa _ | exact hUb _ | exact hUc _ | exact hUd _ | omega) (by first | exact hB _ _ | exact hUa _ | exact hUb _ | exact hUc _ | exact hUd _ | omega) hx hb dX2_countGuestsOf_12 (by decide) (fun c_6 => ?_) (fun c_6 => ?_)
      · skip
        obtain rfl : i = N 0 1 := by omega
        refine lv_iload_n hx hb dX2_countGuestsOf_59 rfl (lv_at hl 1 rfl) ?_
        refine zz_iret hx hb hr hlocks hS (Nat.le_of_ble_eq_true rfl) (Nat.le_of_ble_eq_true rfl) dX2_countGuestsOf_60 ?_
        first | rfl | (simp [c_6]; done) | (simp_all; done) | (split <;> first | rfl | omega | (simp_all; done); done)
      · skip
        refine lv_aload_n hx hb dX2_countGuestsOf_15 rfl (lv_at hl 2 rfl) ?_
        refine zz_get (ci := 5) (C := RX2) (T := TX2) (N := 8) (v := .ref (ad 1 1)) hx hb hts hown hK (zx_ob hZ.W).1 rfl zf_X2 1 (by decide) zw_60 (fun _ h9 => h9) rfl dX2_countGuestsOf_16 ?_
        refine lv_iload_n hx hb dX2_countGuestsOf_19 rfl (lv_at hl 0 rfl) ?_
        have hj_7 : i < N 0 1 := by omega
        refine zz_after (pc := 20) rfl (zz_runV (ci := 2) (q0 := (RJx4a65c, TJx4a65c, 3)) (b := ad 1 1) (As := [.int (nI i)]) (rest := []) hx hb hml hown hts (c_Jx4a65c_get_915e3 l (K := K) (A := A) (ad := ad) (E := E) (cap := cap) (N := N) (G := G) (L := L) hk (by decide) (j := i) (r := (ad 5 i)) hj_7 (zx_g1 hj_7)) zw_101 zw_102 zw_103 zw_4 zw_104 zd_Jx4a65c_get_915e3 ⟨Nat.le_of_ble_eq_true rfl, Nat.le_of_ble_eq_true rfl⟩ hZ.E hZ.A (zx_li hZ.W (t := 1) (by decide)).1 rfl rfl hZ.W hl.1 (Nat.le_of_ble_eq_true rfl) dX2_countGuestsOf_20 ⟨Nat.le_of_ble_eq_true rfl, Nat.le_of_ble_eq_true rfl⟩) hS (fun _ h => h.elim) (fun v_10 H locs hq_8 hF_9 hS => ?_)
        refine W.widen (k := 0) (n := 0) (Nat.le_of_ble_eq_true rfl) (Nat.le_of_ble_eq_true rfl) ?_
        obtain rfl := hq_8
        have hZ := hZ.ro hF_9
        refine W.eq (g2 := F0 m 23 ls [.ref (ad 5 i)]) rfl ?_
        refine va_castS hx hb hown (hts _ zw_129) (hK.1 4 _ rfl).2 (zz_rc hK (zx_pe hZ.W (q := i) hj_7).1 rfl) dX2_countGuestsOf_23 ?_
        refine lv_astore (lv' := [(4, .ref (ad 5 i)), (3, .int (nI i)), (2, .int (nI (zc (fun q => N 6 q = f + 1 ∧ N 8 q ≠ 0) i))), (0, .ref (ad 0 0)), (1, .ref (ad 3 f))]) hx hb dX2_countGuestsOf_26 hl (Nat.le_of_ble_eq_true rfl) rfl (fun ls hl => ?_)
        refine lv_iload_n hx hb dX2_countGuestsOf_28 rfl (lv_at hl 2 rfl) ?_
        refine lv_aload hx hb dX2_countGuestsOf_29 (lv_at hl 0 rfl) ?_
        refine zz_getN (ci := 4) (C := RX1) (T := TX1) (N := 7) (v := va_rf (zz_ro (ad 3) (N 6 i))) hx hb hts hN hown hK (zx_pe hZ.W (q := i) hj_7).1 rfl zf_X1 4 (by decide) zn_493 (fun _ h9 => h9) rfl dX2_countGuestsOf_31 ?_
        refine lv_aload_n hx hb dX2_countGuestsOf_34 rfl (lv_at hl 4 rfl) ?_
        refine zz_acmp_ne (rx := zz_ro (ad 3) (N 6 i)) (ry := some (ad 3 f)) (P := N 6 i = f + 1) (tgt := 50) (zx_seq hZ.W (by first | omega | exact (hI.st i hj_7)) hf) hx hb dX2_countGuestsOf_35 (by decide) (fun c_11 => ?_) (fun c_11 => ?_)
        · skip
          refine zz_con 0 hx hb dX2_countGuestsOf_50 (by decide) ?_
          refine zz_add hx hb dX2_countGuestsOf_51 ?_
          refine lv_istore_n (lv' := [(2, .int (nI ((zc (fun q => N 6 q = f + 1 ∧ N 8 q ≠ 0) i) + 0))), (4, .ref (ad 5 i)), (3, .int (nI i)), (0, .ref (ad 0 0)), (1, .ref (ad 3 f))]) hx hb dX2_countGuestsOf_52 rfl hl (Nat.le_of_ble_eq_true rfl) rfl (fun ls hl => ?_)
          refine zz_inc (k := 2) (lv' := [(3, .int (nI (i + 1))), (2, .int (nI ((zc (fun q => N 6 q = f + 1 ∧ N 8 q ≠ 0) i) + 0))), (4, .ref (ad 5 i)), (0, .ref (ad 0 0)), (1, .ref (ad 3 f))]) hx hb dX2_countGuestsOf_53 hl rfl (Nat.le_of_ble_eq_true rfl) rfl (fun ls hl => ?_)
          refine lv_goto (tgt := 4) hx hb dX2_countGuestsOf_56 (by decide) ?_
          refine ih_i (i + 1) (by omega) (by omega) _ _ _ ?_ hS ?_
          · exact hZ
          · skip
            rw [show (.int (nI (zc (fun q => N 6 q = f + 1 ∧ N 8 q ≠ 0) (i + 1))) : Value) = .int (nI ((zc (fun q => N 6 q = f + 1 ∧ N 8 q ≠ 0) i) + 0)) from congrArg Value.int (by first | rfl | ((rw [zc_t (by assumption)]); done) | ((rw [zc_f (by assumption)]); done) | ((rw [zc_t ⟨by assumption, by assumption⟩]); done) | ((rw [zc_f (fun h => by have := h.1; have := h.2; omega)]); done) | ((rw [zc_f (fun h => absurd h.1 (by assumption))]); done) | ((rw [zc_f (fun h => absurd h.2 (by assumption))]); done))]
            exact lv_sub hl [0, 1, 3, 4] rfl
        · skip
          refine lv_aload hx hb dX2_countGuestsOf_38 (lv_at hl 0 rfl) ?_
          refine zz_getN (ci := 4) (C := RX1) (T := TX1) (N := 7) (v := .int (nI (N 8 i))) hx hb hts hN hown hK (zx_pe hZ.W (q := i) hj_7).1 rfl zf_X1 6 (by decide) zn_497 (fun _ h9 => h9) rfl dX2_countGuestsOf_40 ?_
          refine zz_if_eq (tgt := 50) (by first | exact hB _ _ | exact hUa _ | exact hUb _ | exact hUc _ | exact hUd _ | omega) hx hb dX2_countGuestsOf_43 (by decide) (fun c_12 => ?_) (fun c_12 => ?_)
          · skip
            refine zz_con 0 hx hb dX2_countGuestsOf_50 (by decide) ?_
            refine zz_add hx hb dX2_countGuestsOf_51 ?_
            refine lv_istore_n (lv' := [(2, .int (nI ((zc (fun q => N 6 q = f + 1 ∧ N 8 q ≠ 0) i) + 0))), (4, .ref (ad 5 i)), (3, .int (nI i)), (0, .ref (ad 0 0)), (1, .ref (ad 3 f))]) hx hb dX2_countGuestsOf_52 rfl hl (Nat.le_of_ble_eq_true rfl) rfl (fun ls hl => ?_)
            refine zz_inc (k := 2) (lv' := [(3, .int (nI (i + 1))), (2, .int (nI ((zc (fun q => N 6 q = f + 1 ∧ N 8 q ≠ 0) i) + 0))), (4, .ref (ad 5 i)), (0, .ref (ad 0 0)), (1, .ref (ad 3 f))]) hx hb dX2_countGuestsOf_53 hl rfl (Nat.le_of_ble_eq_true rfl) rfl (fun ls hl => ?_)
            refine lv_goto (tgt := 4) hx hb dX2_countGuestsOf_56 (by decide) ?_
            refine ih_i (i + 1) (by omega) (by omega) _ _ _ ?_ hS ?_
            · exact hZ
            · skip
              rw [show (.int (nI (zc (fun q => N 6 q = f + 1 ∧ N 8 q ≠ 0) (i + 1))) : Value) = .int (nI ((zc (fun q => N 6 q = f + 1 ∧ N 8 q ≠ 0) i) + 0)) from congrArg Value.int (by first | rfl | ((rw [zc_t (by assumption)]); done) | ((rw [zc_f (by assumption)]); done) | ((rw [zc_t ⟨by assumption, by assumption⟩]); done) | ((rw [zc_f (fun h => by have := h.1; have := h.2; omega)]); done) | ((rw [zc_f (fun h => absurd h.1 (by assumption))]); done) | ((rw [zc_f (fun h => absurd h.2 (by assumption))]); done))]
              exact lv_sub hl [0, 1, 3, 4] rfl
          · skip
            refine zz_con 1 hx hb dX2_countGuestsOf_46 (by decide) ?_
            refine lv_goto (tgt := 51) hx hb dX2_countGuestsOf_47 (by decide) ?_
            refine zz_add hx hb dX2_countGuestsOf_51 ?_
            refine lv_istore_n (lv' := [(2, .int (nI ((zc (fun q => N 6 q = f + 1 ∧ N 8 q ≠ 0) i) + 1))), (4, .ref (ad 5 i)), (3, .int (nI i)), (0, .ref (ad 0 0)), (1, .ref (ad 3 f))]) hx hb dX2_countGuestsOf_52 rfl hl (Nat.le_of_ble_eq_true rfl) rfl (fun ls hl => ?_)
            refine zz_inc (k := 2) (lv' := [(3, .int (nI (i + 1))), (2, .int (nI ((zc (fun q => N 6 q = f + 1 ∧ N 8 q ≠ 0) i) + 1))), (4, .ref (ad 5 i)), (0, .ref (ad 0 0)), (1, .ref (ad 3 f))]) hx hb dX2_countGuestsOf_53 hl rfl (Nat.le_of_ble_eq_true rfl) rfl (fun ls hl => ?_)
            refine lv_goto (tgt := 4) hx hb dX2_countGuestsOf_56 (by decide) ?_
            refine ih_i (i + 1) (by omega) (by omega) _ _ _ ?_ hS ?_
            · exact hZ
            · skip
              rw [show (.int (nI (zc (fun q => N 6 q = f + 1 ∧ N 8 q ≠ 0) (i + 1))) : Value) = .int (nI ((zc (fun q => N 6 q = f + 1 ∧ N 8 q ≠ 0) i) + 1)) from congrArg Value.int (by first | rfl | ((rw [zc_t (by assumption)]); done) | ((rw [zc_f (by assumption)]); done) | ((rw [zc_t ⟨by assumption, by assumption⟩]); done) | ((rw [zc_f (fun h => by have := h.1; have := h.2; omega)]); done) | ((rw [zc_f (fun h => absurd h.1 (by assumption))]); done) | ((rw [zc_f (fun h => absurd h.2 (by assumption))]); done))]
              exact lv_sub hl [0, 1, 3, 4] rfl
  refine hL_2 (N 0 1 + 1) 0 (by first | omega | exact Nat.zero_le _) (by first | omega | (rw [Nat.zero_add]; exact Nat.lt_succ_self _)) _ _ _ hZ hS ?_
  exact lv_sub hl [0, 1, 2, 3] rfl

set_option maxHeartbeats 4000000 in
set_option maxRecDepth 100000 in
theorem c_X2_countPeopleIn (l : Launch) {K : zz_G} {A : Nat → Prop} {ad : Nat → Nat → Nat} {E : Nat → Nat → Int32} {cap : Nat → Nat} {N : Nat → Nat → Nat} {G : Nat → Nat → Int32} {L : Nat → Int64} (hI : zq N) (hk : zk K ad cap N)  : zz_C l yX2_countPeopleIn cX2_countPeopleIn 3 (Option.some FieldType.int) ({ frames := 3, cells := 0, slots := 0, locals := 64 } : Room) K A [.ref (ad 0 0)] (fun H => zz_W K A ad (zx_c K ad E cap N G L) H) (fun v9 _ _ => v9 = some (.int (nI (zc (fun q => N 7 q ≠ 0) (N 0 1))))) zz_nx zz_no := by
  refine zz_body (by decide +kernel) (Nat.le_of_ble_eq_true rfl) ?_
  intro p e s m below meth c ls hx hb hr hml hts hown hlocks hmn htab hE hA hP hl
  have hN := hE.N
  have hK := hE.K
  have hown : s.vm.findClass RX2 = some m.cls := hown
  have hl : lv_has ls 3 [(0, .ref (ad 0 0))] := hl
  have hZ : zz_Z K A s ad (zx_c K ad E cap N G L) s.heap := ⟨hE, hA, hP⟩
  have hS : va_S zz_no s.heap s.heap [] := va_S.rf
  obtain ⟨H, hH⟩ : ∃ z, z = s.heap := ⟨_, rfl⟩
  have hS0 : va_S zz_no s.heap H [] := by rw [hH]; exact hS
  rw [← hH] at hZ
  have hE0 := hE
  clear hS
  have hS := hS0
  have hB := hI.B
  have hbk := hI.bk
  have h00 := hI.f
  have h01 := hI.p
  have h02 := hI.b
  have hk0 := hk 0 (by decide)
  have hk1 := hk 1 (by decide)
  have hk2 := hk 2 (by decide)
  show W p l e _ s m _ below meth c s.heap [] 0 0 _ (F0 m 0 ls [])
  rw [← hH]
  refine zz_con 0 hx hb dX2_countPeopleIn_0 (by decide) ?_
  refine lv_istore_n (lv' := [(1, .int (nI 0)), (0, .ref (ad 0 0))]) hx hb dX2_countPeopleIn_1 rfl hl (Nat.le_of_ble_eq_true rfl) rfl (fun ls hl => ?_)
  refine zz_con 0 hx hb dX2_countPeopleIn_2 (by decide) ?_
  refine lv_istore_n (lv' := [(2, .int (nI 0)), (1, .int (nI 0)), (0, .ref (ad 0 0))]) hx hb dX2_countPeopleIn_3 rfl hl (Nat.le_of_ble_eq_true rfl) rfl (fun ls hl => ?_)
  have hL_2 : ∀ (k i : Nat), i ≤ N 0 1 → N 0 1 < i + k → ∀ (H : Heap) (locs : List Loc) (ls : Array Slot), zz_Z K A s ad (zx_c K ad E cap N G L) H → va_S zz_no s.heap H locs → lv_has ls 3 [(2, .int (nI i)), (1, .int (nI (zc (fun q => N 7 q ≠ 0) i))), (0, .ref (ad 0 0))] → W p l e ({ frames := 3, cells := 0, slots := 0, locals := 64 } : Room) s m ([.ref (ad 0 0)] : List Value).toArray below meth c H locs 0 0 (vx_MQ below (zz_Qc (fun v9 _ _ => v9 = some (.int (nI (zc (fun q => N 7 q ≠ 0) (N 0 1))))) zz_no) (zz_XC zz_nx) ([.ref (ad 0 0)] : List Value).toArray s ({ frames := 3, cells := 0, slots := 0, locals := 64 } : Room).cells ({ frames := 3, cells := 0, slots := 0, locals := 64 } : Room).slots zz_no) (F0 m 4 ls []) := by
    intro k
    induction k with
    | zero => intro i hi hik; omega
    | succ k ih_i =>
      intro i hii hiki H locs ls hZ hS hl
      refine lv_iload_n hx hb dX2_countPeopleIn_4 rfl (lv_at hl 0 rfl) ?_
      refine lv_aload_n hx hb dX2_countPeopleIn_5 rfl (lv_at hl 2 rfl) ?_
      refine zz_get (ci := 5) (C := RX2) (T := TX2) (N := 8) (v := .ref (ad 1 1)) hx hb hts hown hK (zx_ob hZ.W).1 rfl zf_X2 1 (by decide) zw_60 (fun _ h9 => h9) rfl dX2_countPeopleIn_6 ?_
      refine zz_after (pc := 9) rfl (zz_runV (ci := 2) (q0 := (RJx4a65c, TJx4a65c, 3)) (b := ad 1 1) (As := []) (rest := [.int (nI i)]) hx hb hml hown hts (c_Jx4a65c_size_8abf5 l (K := K) (A := A) (ad := ad) (E := E) (cap := cap) (N := N) (G := G) (L := L) hk (by decide)) zw_88 zw_89 zw_90 zw_4 zw_91 zd_Jx4a65c_size_8abf5 ⟨Nat.le_of_ble_eq_true rfl, Nat.le_of_ble_eq_true rfl⟩ hZ.E hZ.A (zx_li hZ.W (t := 1) (by decide)).1 rfl rfl hZ.W hl.1 (Nat.le_of_ble_eq_true rfl) dX2_countPeopleIn_9 ⟨Nat.le_of_ble_eq_true rfl, Nat.le_of_ble_eq_true rfl⟩) hS (fun _ h => h.elim) (fun v_5 H locs hq_3 hF_4 hS => ?_)
      refine W.widen (k := 0) (n := 0) (Nat.le_of_ble_eq_true rfl) (Nat.le_of_ble_eq_true rfl) ?_
      obtain rfl := hq_3
      have hZ := hZ.ro hF_4
      refine W.eq (g2 := F0 m 12 ls [.int (nI (N 0 1)), .int (nI i)]) rfl ?_
      refine zz_ic_ge (tgt := 46) (by first | exact hB _ _ | exact hUa _ | exact hUb _ | exact hUc _ | exact hUd _ | omega) (by first | exact hB _ _ | exact hUa _ | exact hUb _ | exact hUc _ | exact hUd _ | omega) hx hb dX2_countPeopleIn_12 (by decide) (fun c_6 => ?_) (fun c_6 => ?_)
      · skip
        obtain rfl : i = N 0 1 := by omega
        refine lv_iload_n hx hb dX2_countPeopleIn_46 rfl (lv_at hl 1 rfl) ?_
        refine zz_iret hx hb hr hlocks hS (Nat.le_of_ble_eq_true rfl) (Nat.le_of_ble_eq_true rfl) dX2_countPeopleIn_47 ?_
        first | rfl | (simp [c_6]; done) | (simp_all; done) | (split <;> first | rfl | omega | (simp_all; done); done)
      · skip
        refine lv_iload_n hx hb dX2_countPeopleIn_15 rfl (lv_at hl 1 rfl) ?_
        refine lv_aload_n hx hb dX2_countPeopleIn_16 rfl (lv_at hl 2 rfl) ?_
        refine zz_get (ci := 5) (C := RX2) (T := TX2) (N := 8) (v := .ref (ad 1 1)) hx hb hts hown hK (zx_ob hZ.W).1 rfl zf_X2 1 (by decide) zw_60 (fun _ h9 => h9) rfl dX2_countPeopleIn_17 ?_
        refine lv_iload_n hx hb dX2_countPeopleIn_20 rfl (lv_at hl 0 rfl) ?_
        have hj_7 : i < N 0 1 := by omega
        refine zz_after (pc := 21) rfl (zz_runV (ci := 2) (q0 := (RJx4a65c, TJx4a65c, 3)) (b := ad 1 1) (As := [.int (nI i)]) (rest := [.int (nI (zc (fun q => N 7 q ≠ 0) i))]) hx hb hml hown hts (c_Jx4a65c_get_915e3 l (K := K) (A := A) (ad := ad) (E := E) (cap := cap) (N := N) (G := G) (L := L) hk (by decide) (j := i) (r := (ad 5 i)) hj_7 (zx_g1 hj_7)) zw_101 zw_102 zw_103 zw_4 zw_104 zd_Jx4a65c_get_915e3 ⟨Nat.le_of_ble_eq_true rfl, Nat.le_of_ble_eq_true rfl⟩ hZ.E hZ.A (zx_li hZ.W (t := 1) (by decide)).1 rfl rfl hZ.W hl.1 (Nat.le_of_ble_eq_true rfl) dX2_countPeopleIn_21 ⟨Nat.le_of_ble_eq_true rfl, Nat.le_of_ble_eq_true rfl⟩) hS (fun _ h => h.elim) (fun v_10 H locs hq_8 hF_9 hS => ?_)
        refine W.widen (k := 0) (n := 0) (Nat.le_of_ble_eq_true rfl) (Nat.le_of_ble_eq_true rfl) ?_
        obtain rfl := hq_8
        have hZ := hZ.ro hF_9
        refine W.eq (g2 := F0 m 24 ls [.ref (ad 5 i), .int (nI (zc (fun q => N 7 q ≠ 0) i))]) rfl ?_
        refine va_castS hx hb hown (hts _ zw_129) (hK.1 4 _ rfl).2 (zz_rc hK (zx_pe hZ.W (q := i) hj_7).1 rfl) dX2_countPeopleIn_24 ?_
        refine zz_getN (ci := 4) (C := RX1) (T := TX1) (N := 7) (v := .int (nI (N 7 i))) hx hb hts hN hown hK (zx_pe hZ.W (q := i) hj_7).1 rfl zf_X1 5 (by decide) zn_495 (fun _ h9 => h9) rfl dX2_countPeopleIn_27 ?_
        refine zz_if_eq (tgt := 37) (by first | exact hB _ _ | exact hUa _ | exact hUb _ | exact hUc _ | exact hUd _ | omega) hx hb dX2_countPeopleIn_30 (by decide) (fun c_11 => ?_) (fun c_11 => ?_)
        · skip
          refine zz_con 0 hx hb dX2_countPeopleIn_37 (by decide) ?_
          refine zz_add hx hb dX2_countPeopleIn_38 ?_
          refine lv_istore_n (lv' := [(1, .int (nI ((zc (fun q => N 7 q ≠ 0) i) + 0))), (2, .int (nI i)), (0, .ref (ad 0 0))]) hx hb dX2_countPeopleIn_39 rfl hl (Nat.le_of_ble_eq_true rfl) rfl (fun ls hl => ?_)
          refine zz_inc (k := 1) (lv' := [(2, .int (nI (i + 1))), (1, .int (nI ((zc (fun q => N 7 q ≠ 0) i) + 0))), (0, .ref (ad 0 0))]) hx hb dX2_countPeopleIn_40 hl rfl (Nat.le_of_ble_eq_true rfl) rfl (fun ls hl => ?_)
          refine lv_goto (tgt := 4) hx hb dX2_countPeopleIn_43 (by decide) ?_
          refine ih_i (i + 1) (by omega) (by omega) _ _ _ ?_ hS ?_
          · exact hZ
          · skip
            rw [show (.int (nI (zc (fun q => N 7 q ≠ 0) (i + 1))) : Value) = .int (nI ((zc (fun q => N 7 q ≠ 0) i) + 0)) from congrArg Value.int (by first | rfl | ((rw [zc_t (by assumption)]); done) | ((rw [zc_f (by simpa using (by assumption))]); done) | ((exact congrArg nI (zc_f (fun h => h (by assumption)))); done))]
            exact lv_sub hl [0, 1, 2] rfl
        · skip
          refine zz_con 1 hx hb dX2_countPeopleIn_33 (by decide) ?_
          refine lv_goto (tgt := 38) hx hb dX2_countPeopleIn_34 (by decide) ?_
          refine zz_add hx hb dX2_countPeopleIn_38 ?_
          refine lv_istore_n (lv' := [(1, .int (nI ((zc (fun q => N 7 q ≠ 0) i) + 1))), (2, .int (nI i)), (0, .ref (ad 0 0))]) hx hb dX2_countPeopleIn_39 rfl hl (Nat.le_of_ble_eq_true rfl) rfl (fun ls hl => ?_)
          refine zz_inc (k := 1) (lv' := [(2, .int (nI (i + 1))), (1, .int (nI ((zc (fun q => N 7 q ≠ 0) i) + 1))), (0, .ref (ad 0 0))]) hx hb dX2_countPeopleIn_40 hl rfl (Nat.le_of_ble_eq_true rfl) rfl (fun ls hl => ?_)
          refine lv_goto (tgt := 4) hx hb dX2_countPeopleIn_43 (by decide) ?_
          refine ih_i (i + 1) (by omega) (by omega) _ _ _ ?_ hS ?_
          · exact hZ
          · skip
            rw [show (.int (nI (zc (fun q => N 7 q ≠ 0) (i + 1))) : Value) = .int (nI ((zc (fun q => N 7 q ≠ 0) i) + 1)) from congrArg Value.int (by first | rfl | ((rw [zc_t (by assumption)]); done) | ((rw [zc_f (by simpa using (by assumption))]); done) | ((exact congrArg nI (zc_f (fun h => h (by assumption)))); done))]
            exact lv_sub hl [0, 1, 2] rfl
  refine hL_2 (N 0 1 + 1) 0 (by first | omega | exact Nat.zero_le _) (by first | omega | (rw [Nat.zero_add]; exact Nat.lt_succ_self _)) _ _ _ hZ hS ?_
  exact lv_sub hl [0, 1, 2] rfl

set_option maxHeartbeats 4000000 in
set_option maxRecDepth 100000 in
theorem c_X2_countNoShows (l : Launch) {K : zz_G} {A : Nat → Prop} {ad : Nat → Nat → Nat} {E : Nat → Nat → Int32} {cap : Nat → Nat} {N : Nat → Nat → Nat} {G : Nat → Nat → Int32} {L : Nat → Int64} (hI : zq N) (hk : zk K ad cap N)  : zz_C l yX2_countNoShows cX2_countNoShows 3 (Option.some FieldType.int) ({ frames := 3, cells := 0, slots := 0, locals := 64 } : Room) K A [.ref (ad 0 0)] (fun H => zz_W K A ad (zx_c K ad E cap N G L) H) (fun v9 _ _ => v9 = some (.int (nI (zmiss N (N 0 1))))) zz_nx zz_no := by
  refine zz_body (by decide +kernel) (Nat.le_of_ble_eq_true rfl) ?_
  intro p e s m below meth c ls hx hb hr hml hts hown hlocks hmn htab hE hA hP hl
  have hN := hE.N
  have hK := hE.K
  have hown : s.vm.findClass RX2 = some m.cls := hown
  have hl : lv_has ls 3 [(0, .ref (ad 0 0))] := hl
  have hZ : zz_Z K A s ad (zx_c K ad E cap N G L) s.heap := ⟨hE, hA, hP⟩
  have hS : va_S zz_no s.heap s.heap [] := va_S.rf
  obtain ⟨H, hH⟩ : ∃ z, z = s.heap := ⟨_, rfl⟩
  have hS0 : va_S zz_no s.heap H [] := by rw [hH]; exact hS
  rw [← hH] at hZ
  have hE0 := hE
  clear hS
  have hS := hS0
  have hB := hI.B
  have hbk := hI.bk
  have h00 := hI.f
  have h01 := hI.p
  have h02 := hI.b
  have hk0 := hk 0 (by decide)
  have hk1 := hk 1 (by decide)
  have hk2 := hk 2 (by decide)
  show W p l e _ s m _ below meth c s.heap [] 0 0 _ (F0 m 0 ls [])
  rw [← hH]
  refine zz_con 0 hx hb dX2_countNoShows_0 (by decide) ?_
  refine lv_istore_n (lv' := [(1, .int (nI 0)), (0, .ref (ad 0 0))]) hx hb dX2_countNoShows_1 rfl hl (Nat.le_of_ble_eq_true rfl) rfl (fun ls hl => ?_)
  refine zz_con 0 hx hb dX2_countNoShows_2 (by decide) ?_
  refine lv_istore_n (lv' := [(2, .int (nI 0)), (1, .int (nI 0)), (0, .ref (ad 0 0))]) hx hb dX2_countNoShows_3 rfl hl (Nat.le_of_ble_eq_true rfl) rfl (fun ls hl => ?_)
  have hL_2 : ∀ (k i : Nat), i ≤ N 0 1 → N 0 1 < i + k → ∀ (H : Heap) (locs : List Loc) (ls : Array Slot), zz_Z K A s ad (zx_c K ad E cap N G L) H → va_S zz_no s.heap H locs → lv_has ls 3 [(2, .int (nI i)), (1, .int (nI (zc (fun q => N 6 q ≠ 0 ∧ N 8 q = 0) i))), (0, .ref (ad 0 0))] → W p l e ({ frames := 3, cells := 0, slots := 0, locals := 64 } : Room) s m ([.ref (ad 0 0)] : List Value).toArray below meth c H locs 0 0 (vx_MQ below (zz_Qc (fun v9 _ _ => v9 = some (.int (nI (zmiss N (N 0 1))))) zz_no) (zz_XC zz_nx) ([.ref (ad 0 0)] : List Value).toArray s ({ frames := 3, cells := 0, slots := 0, locals := 64 } : Room).cells ({ frames := 3, cells := 0, slots := 0, locals := 64 } : Room).slots zz_no) (F0 m 4 ls []) := by
    intro k
    induction k with
    | zero => intro i hi hik; omega
    | succ k ih_i =>
      intro i hii hiki H locs ls hZ hS hl
      refine lv_iload_n hx hb dX2_countNoShows_4 rfl (lv_at hl 0 rfl) ?_
      refine lv_aload_n hx hb dX2_countNoShows_5 rfl (lv_at hl 2 rfl) ?_
      refine zz_get (ci := 5) (C := RX2) (T := TX2) (N := 8) (v := .ref (ad 1 1)) hx hb hts hown hK (zx_ob hZ.W).1 rfl zf_X2 1 (by decide) zw_60 (fun _ h9 => h9) rfl dX2_countNoShows_6 ?_
      refine zz_after (pc := 9) rfl (zz_runV (ci := 2) (q0 := (RJx4a65c, TJx4a65c, 3)) (b := ad 1 1) (As := []) (rest := [.int (nI i)]) hx hb hml hown hts (c_Jx4a65c_size_8abf5 l (K := K) (A := A) (ad := ad) (E := E) (cap := cap) (N := N) (G := G) (L := L) hk (by decide)) zw_88 zw_89 zw_90 zw_4 zw_91 zd_Jx4a65c_size_8abf5 ⟨Nat.le_of_ble_eq_true rfl, Nat.le_of_ble_eq_true rfl⟩ hZ.E hZ.A (zx_li hZ.W (t := 1) (by decide)).1 rfl rfl hZ.W hl.1 (Nat.le_of_ble_eq_true rfl) dX2_countNoShows_9 ⟨Nat.le_of_ble_eq_true rfl, Nat.le_of_ble_eq_true rfl⟩) hS (fun _ h => h.elim) (fun v_5 H locs hq_3 hF_4 hS => ?_)
      refine W.widen (k := 0) (n := 0) (Nat.le_of_ble_eq_true rfl) (Nat.le_of_ble_eq_true rfl) ?_
      obtain rfl := hq_3
      have hZ := hZ.ro hF_4
      refine W.eq (g2 := F0 m 12 ls [.int (nI (N 0 1)), .int (nI i)]) rfl ?_
      refine zz_ic_ge (tgt := 46) (by first | exact hB _ _ | exact hUa _ | exact hUb _ | exact hUc _ | exact hUd _ | omega) (by first | exact hB _ _ | exact hUa _ | exact hUb _ | exact hUc _ | exact hUd _ | omega) hx hb dX2_countNoShows_12 (by decide) (fun c_6 => ?_) (fun c_6 => ?_)
      · skip
        obtain rfl : i = N 0 1 := by omega
        refine lv_iload_n hx hb dX2_countNoShows_46 rfl (lv_at hl 1 rfl) ?_
        refine zz_iret hx hb hr hlocks hS (Nat.le_of_ble_eq_true rfl) (Nat.le_of_ble_eq_true rfl) dX2_countNoShows_47 ?_
        first | rfl | (simp [c_6]; done) | (simp_all; done) | (split <;> first | rfl | omega | (simp_all; done); done)
      · skip
        refine lv_iload_n hx hb dX2_countNoShows_15 rfl (lv_at hl 1 rfl) ?_
        refine lv_aload_n hx hb dX2_countNoShows_16 rfl (lv_at hl 2 rfl) ?_
        refine zz_get (ci := 5) (C := RX2) (T := TX2) (N := 8) (v := .ref (ad 1 1)) hx hb hts hown hK (zx_ob hZ.W).1 rfl zf_X2 1 (by decide) zw_60 (fun _ h9 => h9) rfl dX2_countNoShows_17 ?_
        refine lv_iload_n hx hb dX2_countNoShows_20 rfl (lv_at hl 0 rfl) ?_
        have hj_7 : i < N 0 1 := by omega
        refine zz_after (pc := 21) rfl (zz_runV (ci := 2) (q0 := (RJx4a65c, TJx4a65c, 3)) (b := ad 1 1) (As := [.int (nI i)]) (rest := [.int (nI (zc (fun q => N 6 q ≠ 0 ∧ N 8 q = 0) i))]) hx hb hml hown hts (c_Jx4a65c_get_915e3 l (K := K) (A := A) (ad := ad) (E := E) (cap := cap) (N := N) (G := G) (L := L) hk (by decide) (j := i) (r := (ad 5 i)) hj_7 (zx_g1 hj_7)) zw_101 zw_102 zw_103 zw_4 zw_104 zd_Jx4a65c_get_915e3 ⟨Nat.le_of_ble_eq_true rfl, Nat.le_of_ble_eq_true rfl⟩ hZ.E hZ.A (zx_li hZ.W (t := 1) (by decide)).1 rfl rfl hZ.W hl.1 (Nat.le_of_ble_eq_true rfl) dX2_countNoShows_21 ⟨Nat.le_of_ble_eq_true rfl, Nat.le_of_ble_eq_true rfl⟩) hS (fun _ h => h.elim) (fun v_10 H locs hq_8 hF_9 hS => ?_)
        refine W.widen (k := 0) (n := 0) (Nat.le_of_ble_eq_true rfl) (Nat.le_of_ble_eq_true rfl) ?_
        obtain rfl := hq_8
        have hZ := hZ.ro hF_9
        refine W.eq (g2 := F0 m 24 ls [.ref (ad 5 i), .int (nI (zc (fun q => N 6 q ≠ 0 ∧ N 8 q = 0) i))]) rfl ?_
        refine va_castS hx hb hown (hts _ zw_129) (hK.1 4 _ rfl).2 (zz_rc hK (zx_pe hZ.W (q := i) hj_7).1 rfl) dX2_countNoShows_24 ?_
        refine zz_after (pc := 27) rfl (zz_runV (ci := 4) (q0 := (RX1, TX1, 7)) (b := ad 5 i) (As := []) (rest := [.int (nI (zc (fun q => N 6 q ≠ 0 ∧ N 8 q = 0) i))]) hx hb hml hown hts (c_X1_isNoShow l (K := K) (A := A) (ad := ad) (E := E) (cap := cap) (N := N) (G := G) (L := L) hI hj_7) zw_616 zw_617 zw_618 zw_21 zw_619 zd_X1_isNoShow ⟨Nat.le_of_ble_eq_true rfl, Nat.le_of_ble_eq_true rfl⟩ hZ.E hZ.A (zx_pe hZ.W (q := i) hj_7).1 rfl rfl hZ.W hl.1 (Nat.le_of_ble_eq_true rfl) dX2_countNoShows_27 ⟨Nat.le_of_ble_eq_true rfl, Nat.le_of_ble_eq_true rfl⟩) hS (fun _ h => h.elim) (fun v_13 H locs hq_11 hF_12 hS => ?_)
        refine W.widen (k := 0) (n := 0) (Nat.le_of_ble_eq_true rfl) (Nat.le_of_ble_eq_true rfl) ?_
        obtain rfl := hq_11
        have hZ := hZ.ro hF_12
        refine W.eq (g2 := F0 m 30 ls [.int (zz_bo (N 6 i ≠ 0 ∧ N 8 i = 0)), .int (nI (zc (fun q => N 6 q ≠ 0 ∧ N 8 q = 0) i))]) rfl ?_
        refine zz_bi_eq (tgt := 37) hx hb dX2_countNoShows_30 (by decide) (fun c_14 => ?_) (fun c_14 => ?_)
        · skip
          refine zz_con 0 hx hb dX2_countNoShows_37 (by decide) ?_
          refine zz_add hx hb dX2_countNoShows_38 ?_
          refine lv_istore_n (lv' := [(1, .int (nI ((zc (fun q => N 6 q ≠ 0 ∧ N 8 q = 0) i) + 0))), (2, .int (nI i)), (0, .ref (ad 0 0))]) hx hb dX2_countNoShows_39 rfl hl (Nat.le_of_ble_eq_true rfl) rfl (fun ls hl => ?_)
          refine zz_inc (k := 1) (lv' := [(2, .int (nI (i + 1))), (1, .int (nI ((zc (fun q => N 6 q ≠ 0 ∧ N 8 q = 0) i) + 0))), (0, .ref (ad 0 0))]) hx hb dX2_countNoShows_40 hl rfl (Nat.le_of_ble_eq_true rfl) rfl (fun ls hl => ?_)
          refine lv_goto (tgt := 4) hx hb dX2_countNoShows_43 (by decide) ?_
          refine ih_i (i + 1) (by omega) (by omega) _ _ _ ?_ hS ?_
          · exact hZ
          · skip
            rw [show (.int (nI (zc (fun q => N 6 q ≠ 0 ∧ N 8 q = 0) (i + 1))) : Value) = .int (nI ((zc (fun q => N 6 q ≠ 0 ∧ N 8 q = 0) i) + 0)) from congrArg Value.int (by first | rfl | ((rw [zc_t (by assumption)]); done) | ((rw [zc_f (by assumption)]); done) | ((rw [zc_t ⟨by assumption, by assumption⟩]); done) | ((rw [zc_f (fun h => by have := h.1; have := h.2; omega)]); done) | ((rw [zc_f (fun h => absurd h.1 (by assumption))]); done) | ((rw [zc_f (fun h => absurd h.2 (by assumption))]); done))]
            exact lv_sub hl [0, 1, 2] rfl
        · skip
          refine zz_con 1 hx hb dX2_countNoShows_33 (by decide) ?_
          refine lv_goto (tgt := 38) hx hb dX2_countNoShows_34 (by decide) ?_
          refine zz_add hx hb dX2_countNoShows_38 ?_
          refine lv_istore_n (lv' := [(1, .int (nI ((zc (fun q => N 6 q ≠ 0 ∧ N 8 q = 0) i) + 1))), (2, .int (nI i)), (0, .ref (ad 0 0))]) hx hb dX2_countNoShows_39 rfl hl (Nat.le_of_ble_eq_true rfl) rfl (fun ls hl => ?_)
          refine zz_inc (k := 1) (lv' := [(2, .int (nI (i + 1))), (1, .int (nI ((zc (fun q => N 6 q ≠ 0 ∧ N 8 q = 0) i) + 1))), (0, .ref (ad 0 0))]) hx hb dX2_countNoShows_40 hl rfl (Nat.le_of_ble_eq_true rfl) rfl (fun ls hl => ?_)
          refine lv_goto (tgt := 4) hx hb dX2_countNoShows_43 (by decide) ?_
          refine ih_i (i + 1) (by omega) (by omega) _ _ _ ?_ hS ?_
          · exact hZ
          · skip
            rw [show (.int (nI (zc (fun q => N 6 q ≠ 0 ∧ N 8 q = 0) (i + 1))) : Value) = .int (nI ((zc (fun q => N 6 q ≠ 0 ∧ N 8 q = 0) i) + 1)) from congrArg Value.int (by first | rfl | ((rw [zc_t (by assumption)]); done) | ((rw [zc_f (by assumption)]); done) | ((rw [zc_t ⟨by assumption, by assumption⟩]); done) | ((rw [zc_f (fun h => by have := h.1; have := h.2; omega)]); done) | ((rw [zc_f (fun h => absurd h.1 (by assumption))]); done) | ((rw [zc_f (fun h => absurd h.2 (by assumption))]); done))]
            exact lv_sub hl [0, 1, 2] rfl
  refine hL_2 (N 0 1 + 1) 0 (by first | omega | exact Nat.zero_le _) (by first | omega | (rw [Nat.zero_add]; exact Nat.lt_succ_self _)) _ _ _ hZ hS ?_
  exact lv_sub hl [0, 1, 2] rfl

set_option maxHeartbeats 4000000 in
set_option maxRecDepth 100000 in
theorem c_X2_allFloors (l : Launch) {K : zz_G} {A : Nat → Prop} {ad : Nat → Nat → Nat} {E : Nat → Nat → Int32} {cap : Nat → Nat} {N : Nat → Nat → Nat} {G : Nat → Nat → Int32} {L : Nat → Int64} (hI : zq N) (hk : zk K ad cap N)  : zz_C l yX2_allFloors cX2_allFloors 1 (Option.some FieldType.int) ({ frames := 1, cells := 0, slots := 0, locals := 20 } : Room) K A [.ref (ad 0 0)] (fun H => zz_W K A ad (zx_c K ad E cap N G L) H) (fun v9 _ _ => v9 = some (.int (nI (2 ^ N 0 0 - 1)))) zz_nx zz_no := by
  refine zz_body (by decide +kernel) (Nat.le_of_ble_eq_true rfl) ?_
  intro p e s m below meth c ls hx hb hr hml hts hown hlocks hmn htab hE hA hP hl
  have hN := hE.N
  have hK := hE.K
  have hown : s.vm.findClass RX2 = some m.cls := hown
  have hl : lv_has ls 1 [(0, .ref (ad 0 0))] := hl
  have hZ : zz_Z K A s ad (zx_c K ad E cap N G L) s.heap := ⟨hE, hA, hP⟩
  have hS : va_S zz_no s.heap s.heap [] := va_S.rf
  obtain ⟨H, hH⟩ : ∃ z, z = s.heap := ⟨_, rfl⟩
  have hS0 : va_S zz_no s.heap H [] := by rw [hH]; exact hS
  rw [← hH] at hZ
  have hE0 := hE
  clear hS
  have hS := hS0
  have hB := hI.B
  have hbk := hI.bk
  have h00 := hI.f
  have h01 := hI.p
  have h02 := hI.b
  have hk0 := hk 0 (by decide)
  have hk1 := hk 1 (by decide)
  have hk2 := hk 2 (by decide)
  have hp2 : 2 ^ N 0 0 ≤ 64 := Nat.le_trans (Nat.pow_le_pow_right (by decide) h00) (by decide)
  have hp1 := Nat.two_pow_pos (N 0 0)
  show W p l e _ s m _ below meth c s.heap [] 0 0 _ (F0 m 0 ls [])
  rw [← hH]
  refine zz_con 1 hx hb dX2_allFloors_0 (by decide) ?_
  refine lv_aload_n hx hb dX2_allFloors_1 rfl (lv_at hl 0 rfl) ?_
  refine zz_get (ci := 5) (C := RX2) (T := TX2) (N := 8) (v := .ref (ad 1 0)) hx hb hts hown hK (zx_ob hZ.W).1 rfl zf_X2 0 (by decide) zw_59 (fun _ h9 => h9) rfl dX2_allFloors_2 ?_
  refine zz_after (pc := 5) rfl (zz_runV (ci := 2) (q0 := (RJx4a65c, TJx4a65c, 3)) (b := ad 1 0) (As := []) (rest := [.int (nI 1)]) hx hb hml hown hts (c_Jx4a65c_size_8abf5 l (K := K) (A := A) (ad := ad) (E := E) (cap := cap) (N := N) (G := G) (L := L) hk (by decide)) zw_88 zw_89 zw_90 zw_4 zw_91 zd_Jx4a65c_size_8abf5 ⟨Nat.le_of_ble_eq_true rfl, Nat.le_of_ble_eq_true rfl⟩ hZ.E hZ.A (zx_li hZ.W (t := 0) (by decide)).1 rfl rfl hZ.W hl.1 (Nat.le_of_ble_eq_true rfl) dX2_allFloors_5 ⟨Nat.le_of_ble_eq_true rfl, Nat.le_of_ble_eq_true rfl⟩) hS (fun _ h => h.elim) (fun v_3 H locs hq_1 hF_2 hS => ?_)
  refine W.widen (k := 0) (n := 0) (Nat.le_of_ble_eq_true rfl) (Nat.le_of_ble_eq_true rfl) ?_
  obtain rfl := hq_1
  have hZ := hZ.ro hF_2
  refine W.eq (g2 := F0 m 8 ls [.int (nI (N 0 0)), .int (nI 1)]) rfl ?_
  refine lv_ishl hx hb dX2_allFloors_8 ?_
  refine zz_cv (y := nI (2 ^ (N 0 0))) (zz_bit1b h00) ?_
  refine zz_con 1 hx hb dX2_allFloors_9 (by decide) ?_
  refine zz_sub (by omega) hx hb dX2_allFloors_10 ?_
  refine zz_iret hx hb hr hlocks hS (Nat.le_of_ble_eq_true rfl) (Nat.le_of_ble_eq_true rfl) dX2_allFloors_11 ?_
  first | rfl | (simp []; done) | (simp_all; done) | (split <;> first | rfl | omega | (simp_all; done); done)

set_option maxHeartbeats 4000000 in
set_option maxRecDepth 100000 in
theorem c_X2_seatsOfSet (l : Launch) {K : zz_G} {A : Nat → Prop} {ad : Nat → Nat → Nat} {E : Nat → Nat → Int32} {cap : Nat → Nat} {N : Nat → Nat → Nat} {G : Nat → Nat → Int32} {L : Nat → Int64} (hI : zq N) (hk : zk K ad cap N) {S : Nat} (hSb : S < 2 ^ 31) : zz_C l yX2_seatsOfSet cX2_seatsOfSet 5 (Option.some FieldType.int) ({ frames := 3, cells := 0, slots := 0, locals := 64 } : Room) K A [.ref (ad 0 0), .int (nI S)] (fun H => zz_W K A ad (zx_c K ad E cap N G L) H) (fun v9 _ _ => v9 = some (.int (nI (zss N S)))) zz_nx zz_no := by
  refine zz_body (by decide +kernel) (Nat.le_of_ble_eq_true rfl) ?_
  intro p e s m below meth c ls hx hb hr hml hts hown hlocks hmn htab hE hA hP hl
  have hN := hE.N
  have hK := hE.K
  have hown : s.vm.findClass RX2 = some m.cls := hown
  have hl : lv_has ls 5 [(0, .ref (ad 0 0)), (1, .int (nI S))] := hl
  have hZ : zz_Z K A s ad (zx_c K ad E cap N G L) s.heap := ⟨hE, hA, hP⟩
  have hS : va_S zz_no s.heap s.heap [] := va_S.rf
  obtain ⟨H, hH⟩ : ∃ z, z = s.heap := ⟨_, rfl⟩
  have hS0 : va_S zz_no s.heap H [] := by rw [hH]; exact hS
  rw [← hH] at hZ
  have hE0 := hE
  clear hS
  have hS := hS0
  have hB := hI.B
  have hbk := hI.bk
  have h00 := hI.f
  have h01 := hI.p
  have h02 := hI.b
  have hk0 := hk 0 (by decide)
  have hk1 := hk 1 (by decide)
  have hk2 := hk 2 (by decide)
  show W p l e _ s m _ below meth c s.heap [] 0 0 _ (F0 m 0 ls [])
  rw [← hH]
  refine zz_con 0 hx hb dX2_seatsOfSet_0 (by decide) ?_
  refine lv_istore_n (lv' := [(2, .int (nI 0)), (0, .ref (ad 0 0)), (1, .int (nI S))]) hx hb dX2_seatsOfSet_1 rfl hl (Nat.le_of_ble_eq_true rfl) rfl (fun ls hl => ?_)
  refine zz_con 0 hx hb dX2_seatsOfSet_2 (by decide) ?_
  refine lv_istore_n (lv' := [(3, .int (nI 0)), (2, .int (nI 0)), (0, .ref (ad 0 0)), (1, .int (nI S))]) hx hb dX2_seatsOfSet_3 rfl hl (Nat.le_of_ble_eq_true rfl) rfl (fun ls hl => ?_)
  have hL_2 : ∀ (k i : Nat), i ≤ N 0 0 → N 0 0 < i + k → ∀ (H : Heap) (locs : List Loc) (ls : Array Slot), zz_Z K A s ad (zx_c K ad E cap N G L) H → va_S zz_no s.heap H locs → lv_has ls 5 [(3, .int (nI i)), (2, .int (nI (zsum (fun f => if S.testBit f = true then N 1 f else 0) i))), (0, .ref (ad 0 0)), (1, .int (nI S))] → W p l e ({ frames := 3, cells := 0, slots := 0, locals := 64 } : Room) s m ([.ref (ad 0 0), .int (nI S)] : List Value).toArray below meth c H locs 0 0 (vx_MQ below (zz_Qc (fun v9 _ _ => v9 = some (.int (nI (zss N S)))) zz_no) (zz_XC zz_nx) ([.ref (ad 0 0), .int (nI S)] : List Value).toArray s ({ frames := 3, cells := 0, slots := 0, locals := 64 } : Room).cells ({ frames := 3, cells := 0, slots := 0, locals := 64 } : Room).slots zz_no) (F0 m 4 ls []) := by
    intro k
    induction k with
    | zero => intro i hi hik; omega
    | succ k ih_i =>
      intro i hii hiki H locs ls hZ hS hl
      refine lv_iload_n hx hb dX2_seatsOfSet_4 rfl (lv_at hl 0 rfl) ?_
      refine lv_aload_n hx hb dX2_seatsOfSet_5 rfl (lv_at hl 2 rfl) ?_
      refine zz_get (ci := 5) (C := RX2) (T := TX2) (N := 8) (v := .ref (ad 1 0)) hx hb hts hown hK (zx_ob hZ.W).1 rfl zf_X2 0 (by decide) zw_59 (fun _ h9 => h9) rfl dX2_seatsOfSet_6 ?_
      refine zz_after (pc := 9) rfl (zz_runV (ci := 2) (q0 := (RJx4a65c, TJx4a65c, 3)) (b := ad 1 0) (As := []) (rest := [.int (nI i)]) hx hb hml hown hts (c_Jx4a65c_size_8abf5 l (K := K) (A := A) (ad := ad) (E := E) (cap := cap) (N := N) (G := G) (L := L) hk (by decide)) zw_88 zw_89 zw_90 zw_4 zw_91 zd_Jx4a65c_size_8abf5 ⟨Nat.le_of_ble_eq_true rfl, Nat.le_of_ble_eq_true rfl⟩ hZ.E hZ.A (zx_li hZ.W (t := 0) (by decide)).1 rfl rfl hZ.W hl.1 (Nat.le_of_ble_eq_true rfl) dX2_seatsOfSet_9 ⟨Nat.le_of_ble_eq_true rfl, Nat.le_of_ble_eq_true rfl⟩) hS (fun _ h => h.elim) (fun v_5 H locs hq_3 hF_4 hS => ?_)
      refine W.widen (k := 0) (n := 0) (Nat.le_of_ble_eq_true rfl) (Nat.le_of_ble_eq_true rfl) ?_
      obtain rfl := hq_3
      have hZ := hZ.ro hF_4
      refine W.eq (g2 := F0 m 12 ls [.int (nI (N 0 0)), .int (nI i)]) rfl ?_
      refine zz_ic_ge (tgt := 55) (by first | exact hB _ _ | exact hUa _ | exact hUb _ | exact hUc _ | exact hUd _ | omega) (by first | exact hB _ _ | exact hUa _ | exact hUb _ | exact hUc _ | exact hUd _ | omega) hx hb dX2_seatsOfSet_12 (by decide) (fun c_6 => ?_) (fun c_6 => ?_)
      · skip
        obtain rfl : i = N 0 0 := by omega
        refine lv_iload_n hx hb dX2_seatsOfSet_55 rfl (lv_at hl 1 rfl) ?_
        refine zz_iret hx hb hr hlocks hS (Nat.le_of_ble_eq_true rfl) (Nat.le_of_ble_eq_true rfl) dX2_seatsOfSet_56 ?_
        first | rfl | (simp [c_6]; done) | (simp_all; done) | (split <;> first | rfl | omega | (simp_all; done); done)
      · skip
        refine lv_aload_n hx hb dX2_seatsOfSet_15 rfl (lv_at hl 2 rfl) ?_
        refine zz_get (ci := 5) (C := RX2) (T := TX2) (N := 8) (v := .ref (ad 1 0)) hx hb hts hown hK (zx_ob hZ.W).1 rfl zf_X2 0 (by decide) zw_59 (fun _ h9 => h9) rfl dX2_seatsOfSet_16 ?_
        refine lv_iload_n hx hb dX2_seatsOfSet_19 rfl (lv_at hl 0 rfl) ?_
        have hj_7 : i < N 0 0 := by omega
        refine zz_after (pc := 20) rfl (zz_runV (ci := 2) (q0 := (RJx4a65c, TJx4a65c, 3)) (b := ad 1 0) (As := [.int (nI i)]) (rest := []) hx hb hml hown hts (c_Jx4a65c_get_915e3 l (K := K) (A := A) (ad := ad) (E := E) (cap := cap) (N := N) (G := G) (L := L) hk (by decide) (j := i) (r := (ad 3 i)) hj_7 (zx_g0 hj_7)) zw_101 zw_102 zw_103 zw_4 zw_104 zd_Jx4a65c_get_915e3 ⟨Nat.le_of_ble_eq_true rfl, Nat.le_of_ble_eq_true rfl⟩ hZ.E hZ.A (zx_li hZ.W (t := 0) (by decide)).1 rfl rfl hZ.W hl.1 (Nat.le_of_ble_eq_true rfl) dX2_seatsOfSet_20 ⟨Nat.le_of_ble_eq_true rfl, Nat.le_of_ble_eq_true rfl⟩) hS (fun _ h => h.elim) (fun v_10 H locs hq_8 hF_9 hS => ?_)
        refine W.widen (k := 0) (n := 0) (Nat.le_of_ble_eq_true rfl) (Nat.le_of_ble_eq_true rfl) ?_
        obtain rfl := hq_8
        have hZ := hZ.ro hF_9
        refine W.eq (g2 := F0 m 23 ls [.ref (ad 3 i)]) rfl ?_
        refine va_castS hx hb hown (hts _ zw_115) (hK.1 3 _ rfl).2 (zz_rc hK (zx_fl hZ.W (f := i) hj_7).1 rfl) dX2_seatsOfSet_23 ?_
        refine lv_astore (lv' := [(4, .ref (ad 3 i)), (3, .int (nI i)), (2, .int (nI (zsum (fun f => if S.testBit f = true then N 1 f else 0) i))), (0, .ref (ad 0 0)), (1, .int (nI S))]) hx hb dX2_seatsOfSet_26 hl (Nat.le_of_ble_eq_true rfl) rfl (fun ls hl => ?_)
        refine lv_iload_n hx hb dX2_seatsOfSet_28 rfl (lv_at hl 2 rfl) ?_
        refine lv_aload hx hb dX2_seatsOfSet_29 (lv_at hl 0 rfl) ?_
        refine lv_iload_n hx hb dX2_seatsOfSet_31 rfl (lv_at hl 4 rfl) ?_
        refine zz_after (pc := 32) rfl (zz_runV (ci := 3) (q0 := (RX0, TX0, 7)) (b := ad 3 i) (As := [.int (nI S)]) (rest := [.int (nI (zsum (fun f => if S.testBit f = true then N 1 f else 0) i))]) hx hb hml hown hts (c_X0_isPartOf l (K := K) (A := A) (ad := ad) (E := E) (cap := cap) (N := N) (G := G) (L := L) hI hj_7 (by first | exact hB _ _ | exact hUa _ | exact hUb _ | exact hUc _ | exact hUd _ | omega)) zw_165 zw_166 zw_167 zw_11 zw_168 zd_X0_isPartOf ⟨Nat.le_of_ble_eq_true rfl, Nat.le_of_ble_eq_true rfl⟩ hZ.E hZ.A (zx_fl hZ.W (f := i) hj_7).1 rfl rfl hZ.W hl.1 (Nat.le_of_ble_eq_true rfl) dX2_seatsOfSet_32 ⟨Nat.le_of_ble_eq_true rfl, Nat.le_of_ble_eq_true rfl⟩) hS (fun _ h => h.elim) (fun v_13 H locs hq_11 hF_12 hS => ?_)
        refine W.widen (k := 0) (n := 0) (Nat.le_of_ble_eq_true rfl) (Nat.le_of_ble_eq_true rfl) ?_
        obtain rfl := hq_11
        have hZ := hZ.ro hF_12
        refine W.eq (g2 := F0 m 35 ls [.int (zz_bo (Nat.testBit S i = true)), .int (nI (zsum (fun f => if S.testBit f = true then N 1 f else 0) i))]) rfl ?_
        refine zz_bi_eq (tgt := 46) hx hb dX2_seatsOfSet_35 (by decide) (fun c_14 => ?_) (fun c_14 => ?_)
        · skip
          refine zz_con 0 hx hb dX2_seatsOfSet_46 (by decide) ?_
          refine zz_add hx hb dX2_seatsOfSet_47 ?_
          refine lv_istore_n (lv' := [(2, .int (nI ((zsum (fun f => if S.testBit f = true then N 1 f else 0) i) + 0))), (4, .ref (ad 3 i)), (3, .int (nI i)), (0, .ref (ad 0 0)), (1, .int (nI S))]) hx hb dX2_seatsOfSet_48 rfl hl (Nat.le_of_ble_eq_true rfl) rfl (fun ls hl => ?_)
          refine zz_inc (k := 2) (lv' := [(3, .int (nI (i + 1))), (2, .int (nI ((zsum (fun f => if S.testBit f = true then N 1 f else 0) i) + 0))), (4, .ref (ad 3 i)), (0, .ref (ad 0 0)), (1, .int (nI S))]) hx hb dX2_seatsOfSet_49 hl rfl (Nat.le_of_ble_eq_true rfl) rfl (fun ls hl => ?_)
          refine lv_goto (tgt := 4) hx hb dX2_seatsOfSet_52 (by decide) ?_
          refine ih_i (i + 1) (by omega) (by omega) _ _ _ ?_ hS ?_
          · exact hZ
          · skip
            rw [show (.int (nI (zsum (fun f => if S.testBit f = true then N 1 f else 0) (i + 1))) : Value) = .int (nI ((zsum (fun f => if S.testBit f = true then N 1 f else 0) i) + 0)) from congrArg Value.int (by first | rfl | (simp [zsum, c_6, c_14]; done))]
            exact lv_sub hl [0, 1, 3, 4] rfl
        · skip
          refine lv_aload hx hb dX2_seatsOfSet_38 (lv_at hl 0 rfl) ?_
          refine zz_getN (ci := 3) (C := RX0) (T := TX0) (N := 7) (v := .int (nI (N 1 i))) hx hb hts hN hown hK (zx_fl hZ.W (f := i) hj_7).1 rfl zf_X0 1 (by decide) zn_336 (fun _ h9 => h9) rfl dX2_seatsOfSet_40 ?_
          refine lv_goto (tgt := 47) hx hb dX2_seatsOfSet_43 (by decide) ?_
          refine zz_add hx hb dX2_seatsOfSet_47 ?_
          refine lv_istore_n (lv' := [(2, .int (nI ((zsum (fun f => if S.testBit f = true then N 1 f else 0) i) + (N 1 i)))), (4, .ref (ad 3 i)), (3, .int (nI i)), (0, .ref (ad 0 0)), (1, .int (nI S))]) hx hb dX2_seatsOfSet_48 rfl hl (Nat.le_of_ble_eq_true rfl) rfl (fun ls hl => ?_)
          refine zz_inc (k := 2) (lv' := [(3, .int (nI (i + 1))), (2, .int (nI ((zsum (fun f => if S.testBit f = true then N 1 f else 0) i) + (N 1 i)))), (4, .ref (ad 3 i)), (0, .ref (ad 0 0)), (1, .int (nI S))]) hx hb dX2_seatsOfSet_49 hl rfl (Nat.le_of_ble_eq_true rfl) rfl (fun ls hl => ?_)
          refine lv_goto (tgt := 4) hx hb dX2_seatsOfSet_52 (by decide) ?_
          refine ih_i (i + 1) (by omega) (by omega) _ _ _ ?_ hS ?_
          · exact hZ
          · skip
            rw [show (.int (nI (zsum (fun f => if S.testBit f = true then N 1 f else 0) (i + 1))) : Value) = .int (nI ((zsum (fun f => if S.testBit f = true then N 1 f else 0) i) + (N 1 i))) from congrArg Value.int (by first | rfl | (simp [zsum, c_6, c_14]; done))]
            exact lv_sub hl [0, 1, 3, 4] rfl
  refine hL_2 (N 0 0 + 1) 0 (by first | omega | exact Nat.zero_le _) (by first | omega | (rw [Nat.zero_add]; exact Nat.lt_succ_self _)) _ _ _ hZ hS ?_
  exact lv_sub hl [0, 1, 2, 3] rfl

set_option maxHeartbeats 4000000 in
set_option maxRecDepth 100000 in
theorem c_X2_fits (l : Launch) {K : zz_G} {A : Nat → Prop} {ad : Nat → Nat → Nat} {E : Nat → Nat → Int32} {cap : Nat → Nat} {N : Nat → Nat → Nat} {G : Nat → Nat → Int32} {L : Nat → Int64} (hI : zq N) (hk : zk K ad cap N) {S : Nat} (hSb : S < 2 ^ 31) : zz_C l yX2_fits cX2_fits 2 (Option.some FieldType.boolean) ({ frames := 4, cells := 0, slots := 0, locals := 88 } : Room) K A [.ref (ad 0 0), .int (nI S)] (fun H => zz_W K A ad (zx_c K ad E cap N G L) H) (fun v9 _ _ => v9 = some (.int (zz_bo (zfit N S)))) zz_nx zz_no := by
  refine zz_body (by decide +kernel) (Nat.le_of_ble_eq_true rfl) ?_
  intro p e s m below meth c ls hx hb hr hml hts hown hlocks hmn htab hE hA hP hl
  have hN := hE.N
  have hK := hE.K
  have hown : s.vm.findClass RX2 = some m.cls := hown
  have hl : lv_has ls 2 [(0, .ref (ad 0 0)), (1, .int (nI S))] := hl
  have hZ : zz_Z K A s ad (zx_c K ad E cap N G L) s.heap := ⟨hE, hA, hP⟩
  have hS : va_S zz_no s.heap s.heap [] := va_S.rf
  obtain ⟨H, hH⟩ : ∃ z, z = s.heap := ⟨_, rfl⟩
  have hS0 : va_S zz_no s.heap H [] := by rw [hH]; exact hS
  rw [← hH] at hZ
  have hE0 := hE
  clear hS
  have hS := hS0
  have hB := hI.B
  have hbk := hI.bk
  have h00 := hI.f
  have h01 := hI.p
  have h02 := hI.b
  have hk0 := hk 0 (by decide)
  have hk1 := hk 1 (by decide)
  have hk2 := hk 2 (by decide)
  have hUx := zss_b hI
  have hUb : ∀ S, zls 100 N S < 2 ^ 31 := fun S => by have := zls_b hI (c := 100) S (by decide); omega
  have hUa : ∀ S, zss N S < 2 ^ 31 := fun S => by have := zss_b hI S; omega
  show W p l e _ s m _ below meth c s.heap [] 0 0 _ (F0 m 0 ls [])
  rw [← hH]
  refine lv_aload_n hx hb dX2_fits_0 rfl (lv_at hl 0 rfl) ?_
  refine lv_iload_n hx hb dX2_fits_1 rfl (lv_at hl 1 rfl) ?_
  refine zz_after (pc := 2) rfl (zz_runV (ci := 5) (q0 := (RX2, TX2, 8)) (b := ad 0 0) (As := [.int (nI S)]) (rest := []) hx hb hml hown hts (c_X2_seatsOfSet l (K := K) (A := A) (ad := ad) (E := E) (cap := cap) (N := N) (G := G) (L := L) hI hk (by first | exact hB _ _ | exact hUa _ | exact hUb _ | exact hUc _ | exact hUd _ | omega)) zw_161 zw_163 zs_6 zw_1 zw_164 zd_X2_seatsOfSet ⟨Nat.le_of_ble_eq_true rfl, Nat.le_of_ble_eq_true rfl⟩ hZ.E hZ.A (zx_ob hZ.W).1 rfl rfl hZ.W hl.1 (Nat.le_of_ble_eq_true rfl) dX2_fits_2 ⟨Nat.le_of_ble_eq_true rfl, Nat.le_of_ble_eq_true rfl⟩) hS (fun _ h => h.elim) (fun v_3 H locs hq_1 hF_2 hS => ?_)
  refine W.widen (k := 0) (n := 0) (Nat.le_of_ble_eq_true rfl) (Nat.le_of_ble_eq_true rfl) ?_
  obtain rfl := hq_1
  have hZ := hZ.ro hF_2
  refine W.eq (g2 := F0 m 5 ls [.int (nI (zss N S))]) rfl ?_
  refine lv_aload_n hx hb dX2_fits_5 rfl (lv_at hl 0 rfl) ?_
  refine zz_get (ci := 5) (C := RX2) (T := TX2) (N := 8) (v := .ref (ad 1 2)) hx hb hts hown hK (zx_ob hZ.W).1 rfl zf_X2 2 (by decide) zw_61 (fun _ h9 => h9) rfl dX2_fits_6 ?_
  refine zz_after (pc := 9) rfl (zz_runV (ci := 2) (q0 := (RJx4a65c, TJx4a65c, 3)) (b := ad 1 2) (As := []) (rest := [.int (nI (zss N S))]) hx hb hml hown hts (c_Jx4a65c_size_8abf5 l (K := K) (A := A) (ad := ad) (E := E) (cap := cap) (N := N) (G := G) (L := L) hk (by decide)) zw_88 zw_89 zw_90 zw_4 zw_91 zd_Jx4a65c_size_8abf5 ⟨Nat.le_of_ble_eq_true rfl, Nat.le_of_ble_eq_true rfl⟩ hZ.E hZ.A (zx_li hZ.W (t := 2) (by decide)).1 rfl rfl hZ.W hl.1 (Nat.le_of_ble_eq_true rfl) dX2_fits_9 ⟨Nat.le_of_ble_eq_true rfl, Nat.le_of_ble_eq_true rfl⟩) hS (fun _ h => h.elim) (fun v_6 H locs hq_4 hF_5 hS => ?_)
  refine W.widen (k := 0) (n := 0) (Nat.le_of_ble_eq_true rfl) (Nat.le_of_ble_eq_true rfl) ?_
  obtain rfl := hq_4
  have hZ := hZ.ro hF_5
  refine W.eq (g2 := F0 m 12 ls [.int (nI (N 0 2)), .int (nI (zss N S))]) rfl ?_
  refine zz_ic_lt (tgt := 19) (by first | exact hB _ _ | exact hUa _ | exact hUb _ | exact hUc _ | exact hUd _ | omega) (by first | exact hB _ _ | exact hUa _ | exact hUb _ | exact hUc _ | exact hUd _ | omega) hx hb dX2_fits_12 (by decide) (fun c_7 => ?_) (fun c_7 => ?_)
  · skip
    refine zz_con 0 hx hb dX2_fits_19 (by decide) ?_
    refine zz_zret hx hb hr hlocks hS (Nat.le_of_ble_eq_true rfl) (Nat.le_of_ble_eq_true rfl) dX2_fits_20 (show nI 0 = 0 ∨ nI 0 = 1 by decide) ?_
    refine congrArg (fun z => some (Value.int z)) (zz_bo_f ?_).symm
    first | assumption | omega | (unfold zfit; omega; done) | (exact fun h => absurd h (by unfold zfit; omega); done) | (simp [c_7]; done) | (simp_all; done) | (split <;> first | rfl | omega | (simp_all; done); done)
  · skip
    refine zz_con 1 hx hb dX2_fits_15 (by decide) ?_
    refine lv_goto (tgt := 20) hx hb dX2_fits_16 (by decide) ?_
    refine zz_zret hx hb hr hlocks hS (Nat.le_of_ble_eq_true rfl) (Nat.le_of_ble_eq_true rfl) dX2_fits_20 (show nI 1 = 0 ∨ nI 1 = 1 by decide) ?_
    refine congrArg (fun z => some (Value.int z)) (zz_bo_t ?_).symm
    first | assumption | omega | (unfold zfit; omega; done) | (exact fun h => absurd h (by unfold zfit; omega); done) | (simp [c_7]; done) | (simp_all; done) | (split <;> first | rfl | omega | (simp_all; done); done)

set_option maxHeartbeats 4000000 in
set_option maxRecDepth 100000 in
theorem c_X2_distanceToSet (l : Launch) {K : zz_G} {A : Nat → Prop} {ad : Nat → Nat → Nat} {E : Nat → Nat → Int32} {cap : Nat → Nat} {N : Nat → Nat → Nat} {G : Nat → Nat → Int32} {L : Nat → Int64} (hI : zq N) (hk : zk K ad cap N) {S : Nat} (hSb : S < 2 ^ 31) {w : Nat} (hw : w < N 0 0) : zz_C l yX2_distanceToSet cX2_distanceToSet 6 (Option.some FieldType.int) ({ frames := 3, cells := 0, slots := 0, locals := 64 } : Room) K A [.ref (ad 0 0), .ref (ad 3 w), .int (nI S)] (fun H => zz_W K A ad (zx_c K ad E cap N G L) H) (fun v9 _ _ => v9 = some (.int (nI (znr 100 S w (N 0 0))))) zz_nx zz_no := by
  refine zz_body (by decide +kernel) (Nat.le_of_ble_eq_true rfl) ?_
  intro p e s m below meth c ls hx hb hr hml hts hown hlocks hmn htab hE hA hP hl
  have hN := hE.N
  have hK := hE.K
  have hown : s.vm.findClass RX2 = some m.cls := hown
  have hl : lv_has ls 6 [(0, .ref (ad 0 0)), (1, .ref (ad 3 w)), (2, .int (nI S))] := hl
  have hZ : zz_Z K A s ad (zx_c K ad E cap N G L) s.heap := ⟨hE, hA, hP⟩
  have hS : va_S zz_no s.heap s.heap [] := va_S.rf
  obtain ⟨H, hH⟩ : ∃ z, z = s.heap := ⟨_, rfl⟩
  have hS0 : va_S zz_no s.heap H [] := by rw [hH]; exact hS
  rw [← hH] at hZ
  have hE0 := hE
  clear hS
  have hS := hS0
  have hB := hI.B
  have hbk := hI.bk
  have h00 := hI.f
  have h01 := hI.p
  have h02 := hI.b
  have hk0 := hk 0 (by decide)
  have hk1 := hk 1 (by decide)
  have hk2 := hk 2 (by decide)
  show W p l e _ s m _ below meth c s.heap [] 0 0 _ (F0 m 0 ls [])
  rw [← hH]
  refine lv_bipush (v := nI 100) hx hb dX2_distanceToSet_0 (by decide) ?_
  refine lv_istore_n (lv' := [(3, .int (nI 100)), (0, .ref (ad 0 0)), (1, .ref (ad 3 w)), (2, .int (nI S))]) hx hb dX2_distanceToSet_2 rfl hl (Nat.le_of_ble_eq_true rfl) rfl (fun ls hl => ?_)
  refine zz_con 0 hx hb dX2_distanceToSet_3 (by decide) ?_
  refine lv_istore (lv' := [(4, .int (nI 0)), (3, .int (nI 100)), (0, .ref (ad 0 0)), (1, .ref (ad 3 w)), (2, .int (nI S))]) hx hb dX2_distanceToSet_4 hl (Nat.le_of_ble_eq_true rfl) rfl (fun ls hl => ?_)
  have hL_2 : ∀ (k i : Nat), i ≤ N 0 0 → N 0 0 < i + k → ∀ (H : Heap) (locs : List Loc) (ls : Array Slot), zz_Z K A s ad (zx_c K ad E cap N G L) H → va_S zz_no s.heap H locs → lv_has ls 6 [(4, .int (nI i)), (3, .int (nI (znr 100 S w i))), (0, .ref (ad 0 0)), (1, .ref (ad 3 w)), (2, .int (nI S))] → W p l e ({ frames := 3, cells := 0, slots := 0, locals := 64 } : Room) s m ([.ref (ad 0 0), .ref (ad 3 w), .int (nI S)] : List Value).toArray below meth c H locs 0 0 (vx_MQ below (zz_Qc (fun v9 _ _ => v9 = some (.int (nI (znr 100 S w (N 0 0))))) zz_no) (zz_XC zz_nx) ([.ref (ad 0 0), .ref (ad 3 w), .int (nI S)] : List Value).toArray s ({ frames := 3, cells := 0, slots := 0, locals := 64 } : Room).cells ({ frames := 3, cells := 0, slots := 0, locals := 64 } : Room).slots zz_no) (F0 m 6 ls []) := by
    intro k
    induction k with
    | zero => intro i hi hik; omega
    | succ k ih_i =>
      intro i hii hiki H locs ls hZ hS hl
      have hnl := znr_le 100 S w i
      have hzd : zd w i < 2 ^ 31 := by unfold zd; split <;> omega
      have hzc := zd_comm w i
      refine lv_iload hx hb dX2_distanceToSet_6 (lv_at hl 0 rfl) ?_
      refine lv_aload_n hx hb dX2_distanceToSet_8 rfl (lv_at hl 2 rfl) ?_
      refine zz_get (ci := 5) (C := RX2) (T := TX2) (N := 8) (v := .ref (ad 1 0)) hx hb hts hown hK (zx_ob hZ.W).1 rfl zf_X2 0 (by decide) zw_59 (fun _ h9 => h9) rfl dX2_distanceToSet_9 ?_
      refine zz_after (pc := 12) rfl (zz_runV (ci := 2) (q0 := (RJx4a65c, TJx4a65c, 3)) (b := ad 1 0) (As := []) (rest := [.int (nI i)]) hx hb hml hown hts (c_Jx4a65c_size_8abf5 l (K := K) (A := A) (ad := ad) (E := E) (cap := cap) (N := N) (G := G) (L := L) hk (by decide)) zw_88 zw_89 zw_90 zw_4 zw_91 zd_Jx4a65c_size_8abf5 ⟨Nat.le_of_ble_eq_true rfl, Nat.le_of_ble_eq_true rfl⟩ hZ.E hZ.A (zx_li hZ.W (t := 0) (by decide)).1 rfl rfl hZ.W hl.1 (Nat.le_of_ble_eq_true rfl) dX2_distanceToSet_12 ⟨Nat.le_of_ble_eq_true rfl, Nat.le_of_ble_eq_true rfl⟩) hS (fun _ h => h.elim) (fun v_5 H locs hq_3 hF_4 hS => ?_)
      refine W.widen (k := 0) (n := 0) (Nat.le_of_ble_eq_true rfl) (Nat.le_of_ble_eq_true rfl) ?_
      obtain rfl := hq_3
      have hZ := hZ.ro hF_4
      refine W.eq (g2 := F0 m 15 ls [.int (nI (N 0 0)), .int (nI i)]) rfl ?_
      refine zz_ic_ge (tgt := 58) (by first | exact hB _ _ | exact hUa _ | exact hUb _ | exact hUc _ | exact hUd _ | omega) (by first | exact hB _ _ | exact hUa _ | exact hUb _ | exact hUc _ | exact hUd _ | omega) hx hb dX2_distanceToSet_15 (by decide) (fun c_6 => ?_) (fun c_6 => ?_)
      · skip
        obtain rfl : i = N 0 0 := by omega
        refine lv_iload_n hx hb dX2_distanceToSet_58 rfl (lv_at hl 1 rfl) ?_
        refine zz_iret hx hb hr hlocks hS (Nat.le_of_ble_eq_true rfl) (Nat.le_of_ble_eq_true rfl) dX2_distanceToSet_59 ?_
        first | rfl | (simp [c_6]; done) | (simp_all; done) | (split <;> first | rfl | omega | (simp_all; done); done)
      · skip
        refine lv_aload_n hx hb dX2_distanceToSet_18 rfl (lv_at hl 2 rfl) ?_
        refine zz_get (ci := 5) (C := RX2) (T := TX2) (N := 8) (v := .ref (ad 1 0)) hx hb hts hown hK (zx_ob hZ.W).1 rfl zf_X2 0 (by decide) zw_59 (fun _ h9 => h9) rfl dX2_distanceToSet_19 ?_
        refine lv_iload hx hb dX2_distanceToSet_22 (lv_at hl 0 rfl) ?_
        have hj_7 : i < N 0 0 := by omega
        refine zz_after (pc := 24) rfl (zz_runV (ci := 2) (q0 := (RJx4a65c, TJx4a65c, 3)) (b := ad 1 0) (As := [.int (nI i)]) (rest := []) hx hb hml hown hts (c_Jx4a65c_get_915e3 l (K := K) (A := A) (ad := ad) (E := E) (cap := cap) (N := N) (G := G) (L := L) hk (by decide) (j := i) (r := (ad 3 i)) hj_7 (zx_g0 hj_7)) zw_101 zw_102 zw_103 zw_4 zw_104 zd_Jx4a65c_get_915e3 ⟨Nat.le_of_ble_eq_true rfl, Nat.le_of_ble_eq_true rfl⟩ hZ.E hZ.A (zx_li hZ.W (t := 0) (by decide)).1 rfl rfl hZ.W hl.1 (Nat.le_of_ble_eq_true rfl) dX2_distanceToSet_24 ⟨Nat.le_of_ble_eq_true rfl, Nat.le_of_ble_eq_true rfl⟩) hS (fun _ h => h.elim) (fun v_10 H locs hq_8 hF_9 hS => ?_)
        refine W.widen (k := 0) (n := 0) (Nat.le_of_ble_eq_true rfl) (Nat.le_of_ble_eq_true rfl) ?_
        obtain rfl := hq_8
        have hZ := hZ.ro hF_9
        refine W.eq (g2 := F0 m 27 ls [.ref (ad 3 i)]) rfl ?_
        refine va_castS hx hb hown (hts _ zw_115) (hK.1 3 _ rfl).2 (zz_rc hK (zx_fl hZ.W (f := i) hj_7).1 rfl) dX2_distanceToSet_27 ?_
        refine lv_astore (lv' := [(5, .ref (ad 3 i)), (4, .int (nI i)), (3, .int (nI (znr 100 S w i))), (0, .ref (ad 0 0)), (1, .ref (ad 3 w)), (2, .int (nI S))]) hx hb dX2_distanceToSet_30 hl (Nat.le_of_ble_eq_true rfl) rfl (fun ls hl => ?_)
        refine lv_aload hx hb dX2_distanceToSet_32 (lv_at hl 0 rfl) ?_
        refine lv_iload_n hx hb dX2_distanceToSet_34 rfl (lv_at hl 5 rfl) ?_
        refine zz_after (pc := 35) rfl (zz_runV (ci := 3) (q0 := (RX0, TX0, 7)) (b := ad 3 i) (As := [.int (nI S)]) (rest := []) hx hb hml hown hts (c_X0_isPartOf l (K := K) (A := A) (ad := ad) (E := E) (cap := cap) (N := N) (G := G) (L := L) hI hj_7 (by first | exact hB _ _ | exact hUa _ | exact hUb _ | exact hUc _ | exact hUd _ | omega)) zw_165 zw_166 zw_167 zw_11 zw_168 zd_X0_isPartOf ⟨Nat.le_of_ble_eq_true rfl, Nat.le_of_ble_eq_true rfl⟩ hZ.E hZ.A (zx_fl hZ.W (f := i) hj_7).1 rfl rfl hZ.W hl.1 (Nat.le_of_ble_eq_true rfl) dX2_distanceToSet_35 ⟨Nat.le_of_ble_eq_true rfl, Nat.le_of_ble_eq_true rfl⟩) hS (fun _ h => h.elim) (fun v_13 H locs hq_11 hF_12 hS => ?_)
        refine W.widen (k := 0) (n := 0) (Nat.le_of_ble_eq_true rfl) (Nat.le_of_ble_eq_true rfl) ?_
        obtain rfl := hq_11
        have hZ := hZ.ro hF_12
        refine W.eq (g2 := F0 m 38 ls [.int (zz_bo (Nat.testBit S i = true))]) rfl ?_
        refine zz_bi_eq (tgt := 52) hx hb dX2_distanceToSet_38 (by decide) (fun c_14 => ?_) (fun c_14 => ?_)
        · skip
          refine zz_inc (k := 1) (lv' := [(4, .int (nI (i + 1))), (5, .ref (ad 3 i)), (3, .int (nI (znr 100 S w i))), (0, .ref (ad 0 0)), (1, .ref (ad 3 w)), (2, .int (nI S))]) hx hb dX2_distanceToSet_52 hl rfl (Nat.le_of_ble_eq_true rfl) rfl (fun ls hl => ?_)
          refine lv_goto (tgt := 6) hx hb dX2_distanceToSet_55 (by decide) ?_
          refine ih_i (i + 1) (by omega) (by omega) _ _ _ ?_ hS ?_
          · exact hZ
          · skip
            rw [show (.int (nI (znr 100 S w (i + 1))) : Value) = .int (nI (znr 100 S w i)) from congrArg Value.int (by first | rfl | ((rw [znr, if_neg (fun h => absurd h.1 (by assumption))]); done) | ((exact congrArg nI (znr_min (by assumption))); done))]
            exact lv_sub hl [0, 2, 3, 4, 5] rfl
        · skip
          refine lv_iload_n hx hb dX2_distanceToSet_41 rfl (lv_at hl 2 rfl) ?_
          refine lv_aload_n hx hb dX2_distanceToSet_42 rfl (lv_at hl 4 rfl) ?_
          refine lv_aload hx hb dX2_distanceToSet_43 (lv_at hl 0 rfl) ?_
          refine zz_after (pc := 45) rfl (zz_runV (ci := 3) (q0 := (RX0, TX0, 7)) (b := ad 3 w) (As := [.ref (ad 3 i)]) (rest := [.int (nI (znr 100 S w i))]) hx hb hml hown hts (c_X0_distanceTo l (K := K) (A := A) (ad := ad) (E := E) (cap := cap) (N := N) (G := G) (L := L) hI hw hj_7) zw_178 zw_179 zw_180 zw_11 zw_181 zd_X0_distanceTo ⟨Nat.le_of_ble_eq_true rfl, Nat.le_of_ble_eq_true rfl⟩ hZ.E hZ.A (zx_fl hZ.W (f := w) hw).1 rfl rfl hZ.W hl.1 (Nat.le_of_ble_eq_true rfl) dX2_distanceToSet_45 ⟨Nat.le_of_ble_eq_true rfl, Nat.le_of_ble_eq_true rfl⟩) hS (fun _ h => h.elim) (fun v_17 H locs hq_15 hF_16 hS => ?_)
          refine W.widen (k := 0) (n := 0) (Nat.le_of_ble_eq_true rfl) (Nat.le_of_ble_eq_true rfl) ?_
          obtain rfl := hq_15
          have hZ := hZ.ro hF_16
          refine W.eq (g2 := F0 m 48 ls [.int (nI (zd w i)), .int (nI (znr 100 S w i))]) rfl ?_
          refine va_mmin hx hb (by rw [hml]; exact hl.1.symm) hown (hts _ zw_130) (hts _ zw_131) (hts _ zw_13) (hts _ zw_132) (Nat.le_of_ble_eq_true rfl) (Nat.le_of_ble_eq_true rfl) (Nat.le_of_ble_eq_true rfl) (Nat.le_of_ble_eq_true rfl) dX2_distanceToSet_48 ?_
          rw [zz_minNX (by omega) (by omega)]
          refine lv_istore_n (lv' := [(3, .int (nI (min (znr 100 S w i) (zd w i)))), (5, .ref (ad 3 i)), (4, .int (nI i)), (0, .ref (ad 0 0)), (1, .ref (ad 3 w)), (2, .int (nI S))]) hx hb dX2_distanceToSet_51 rfl hl (Nat.le_of_ble_eq_true rfl) rfl (fun ls hl => ?_)
          refine zz_inc (k := 2) (lv' := [(4, .int (nI (i + 1))), (3, .int (nI (min (znr 100 S w i) (zd w i)))), (5, .ref (ad 3 i)), (0, .ref (ad 0 0)), (1, .ref (ad 3 w)), (2, .int (nI S))]) hx hb dX2_distanceToSet_52 hl rfl (Nat.le_of_ble_eq_true rfl) rfl (fun ls hl => ?_)
          refine lv_goto (tgt := 6) hx hb dX2_distanceToSet_55 (by decide) ?_
          refine ih_i (i + 1) (by omega) (by omega) _ _ _ ?_ hS ?_
          · exact hZ
          · skip
            rw [show (.int (nI (znr 100 S w (i + 1))) : Value) = .int (nI (min (znr 100 S w i) (zd w i))) from congrArg Value.int (by first | rfl | ((rw [znr, if_neg (fun h => absurd h.1 (by assumption))]); done) | ((exact congrArg nI (znr_min (by assumption))); done))]
            exact lv_sub hl [0, 1, 3, 4, 5] rfl
  refine hL_2 (N 0 0 + 1) 0 (by first | omega | exact Nat.zero_le _) (by first | omega | (rw [Nat.zero_add]; exact Nat.lt_succ_self _)) _ _ _ hZ hS ?_
  exact lv_sub hl [0, 1, 2, 3, 4] rfl

set_option maxHeartbeats 4000000 in
set_option maxRecDepth 100000 in
theorem c_X2_lossOfSet (l : Launch) {K : zz_G} {A : Nat → Prop} {ad : Nat → Nat → Nat} {E : Nat → Nat → Int32} {cap : Nat → Nat} {N : Nat → Nat → Nat} {G : Nat → Nat → Int32} {L : Nat → Int64} (hI : zq N) (hk : zk K ad cap N) {S : Nat} (hSb : S < 2 ^ 31) : zz_C l yX2_lossOfSet cX2_lossOfSet 5 (Option.some FieldType.int) ({ frames := 4, cells := 0, slots := 0, locals := 89 } : Room) K A [.ref (ad 0 0), .int (nI S)] (fun H => zz_W K A ad (zx_c K ad E cap N G L) H) (fun v9 _ _ => v9 = some (.int (nI (zls 100 N S)))) zz_nx zz_no := by
  refine zz_body (by decide +kernel) (Nat.le_of_ble_eq_true rfl) ?_
  intro p e s m below meth c ls hx hb hr hml hts hown hlocks hmn htab hE hA hP hl
  have hN := hE.N
  have hK := hE.K
  have hown : s.vm.findClass RX2 = some m.cls := hown
  have hl : lv_has ls 5 [(0, .ref (ad 0 0)), (1, .int (nI S))] := hl
  have hZ : zz_Z K A s ad (zx_c K ad E cap N G L) s.heap := ⟨hE, hA, hP⟩
  have hS : va_S zz_no s.heap s.heap [] := va_S.rf
  obtain ⟨H, hH⟩ : ∃ z, z = s.heap := ⟨_, rfl⟩
  have hS0 : va_S zz_no s.heap H [] := by rw [hH]; exact hS
  rw [← hH] at hZ
  have hE0 := hE
  clear hS
  have hS := hS0
  have hB := hI.B
  have hbk := hI.bk
  have h00 := hI.f
  have h01 := hI.p
  have h02 := hI.b
  have hk0 := hk 0 (by decide)
  have hk1 := hk 1 (by decide)
  have hk2 := hk 2 (by decide)
  show W p l e _ s m _ below meth c s.heap [] 0 0 _ (F0 m 0 ls [])
  rw [← hH]
  refine zz_con 0 hx hb dX2_lossOfSet_0 (by decide) ?_
  refine lv_istore_n (lv' := [(2, .int (nI 0)), (0, .ref (ad 0 0)), (1, .int (nI S))]) hx hb dX2_lossOfSet_1 rfl hl (Nat.le_of_ble_eq_true rfl) rfl (fun ls hl => ?_)
  refine zz_con 0 hx hb dX2_lossOfSet_2 (by decide) ?_
  refine lv_istore_n (lv' := [(3, .int (nI 0)), (2, .int (nI 0)), (0, .ref (ad 0 0)), (1, .int (nI S))]) hx hb dX2_lossOfSet_3 rfl hl (Nat.le_of_ble_eq_true rfl) rfl (fun ls hl => ?_)
  have hL_2 : ∀ (k i : Nat), i ≤ N 0 0 → N 0 0 < i + k → ∀ (H : Heap) (locs : List Loc) (ls : Array Slot), zz_Z K A s ad (zx_c K ad E cap N G L) H → va_S zz_no s.heap H locs → lv_has ls 5 [(3, .int (nI i)), (2, .int (nI (zsum (fun f => if S.testBit f = true then N 2 f else 0) i))), (0, .ref (ad 0 0)), (1, .int (nI S))] → W p l e ({ frames := 4, cells := 0, slots := 0, locals := 89 } : Room) s m ([.ref (ad 0 0), .int (nI S)] : List Value).toArray below meth c H locs 0 0 (vx_MQ below (zz_Qc (fun v9 _ _ => v9 = some (.int (nI (zls 100 N S)))) zz_no) (zz_XC zz_nx) ([.ref (ad 0 0), .int (nI S)] : List Value).toArray s ({ frames := 4, cells := 0, slots := 0, locals := 89 } : Room).cells ({ frames := 4, cells := 0, slots := 0, locals := 89 } : Room).slots zz_no) (F0 m 4 ls []) := by
    intro k
    induction k with
    | zero => intro i hi hik; omega
    | succ k ih_i =>
      intro i hii hiki H locs ls hZ hS hl
      refine lv_iload_n hx hb dX2_lossOfSet_4 rfl (lv_at hl 0 rfl) ?_
      refine lv_aload_n hx hb dX2_lossOfSet_5 rfl (lv_at hl 2 rfl) ?_
      refine zz_get (ci := 5) (C := RX2) (T := TX2) (N := 8) (v := .ref (ad 1 0)) hx hb hts hown hK (zx_ob hZ.W).1 rfl zf_X2 0 (by decide) zw_59 (fun _ h9 => h9) rfl dX2_lossOfSet_6 ?_
      refine zz_after (pc := 9) rfl (zz_runV (ci := 2) (q0 := (RJx4a65c, TJx4a65c, 3)) (b := ad 1 0) (As := []) (rest := [.int (nI i)]) hx hb hml hown hts (c_Jx4a65c_size_8abf5 l (K := K) (A := A) (ad := ad) (E := E) (cap := cap) (N := N) (G := G) (L := L) hk (by decide)) zw_88 zw_89 zw_90 zw_4 zw_91 zd_Jx4a65c_size_8abf5 ⟨Nat.le_of_ble_eq_true rfl, Nat.le_of_ble_eq_true rfl⟩ hZ.E hZ.A (zx_li hZ.W (t := 0) (by decide)).1 rfl rfl hZ.W hl.1 (Nat.le_of_ble_eq_true rfl) dX2_lossOfSet_9 ⟨Nat.le_of_ble_eq_true rfl, Nat.le_of_ble_eq_true rfl⟩) hS (fun _ h => h.elim) (fun v_5 H locs hq_3 hF_4 hS => ?_)
      refine W.widen (k := 0) (n := 0) (Nat.le_of_ble_eq_true rfl) (Nat.le_of_ble_eq_true rfl) ?_
      obtain rfl := hq_3
      have hZ := hZ.ro hF_4
      refine W.eq (g2 := F0 m 12 ls [.int (nI (N 0 0)), .int (nI i)]) rfl ?_
      refine zz_ic_ge (tgt := 55) (by first | exact hB _ _ | exact hUa _ | exact hUb _ | exact hUc _ | exact hUd _ | omega) (by first | exact hB _ _ | exact hUa _ | exact hUb _ | exact hUc _ | exact hUd _ | omega) hx hb dX2_lossOfSet_12 (by decide) (fun c_6 => ?_) (fun c_6 => ?_)
      · skip
        obtain rfl : i = N 0 0 := by omega
        refine zz_con 0 hx hb dX2_lossOfSet_55 (by decide) ?_
        refine lv_istore_n (lv' := [(3, .int (nI 0)), (2, .int (nI (zsum (fun f => if S.testBit f = true then N 2 f else 0) (N 0 0)))), (0, .ref (ad 0 0)), (1, .int (nI S))]) hx hb dX2_lossOfSet_56 rfl hl (Nat.le_of_ble_eq_true rfl) rfl (fun ls hl => ?_)
        have hL_8 : ∀ (k i : Nat), i ≤ N 0 2 → N 0 2 < i + k → ∀ (H : Heap) (locs : List Loc) (ls : Array Slot), zz_Z K A s ad (zx_c K ad E cap N G L) H → va_S zz_no s.heap H locs → lv_has ls 5 [(3, .int (nI i)), (2, .int (nI (zcs N S + zsum (fun k => 3 * znr 100 S (N 10 k) (N 0 0)) i))), (0, .ref (ad 0 0)), (1, .int (nI S))] → W p l e ({ frames := 4, cells := 0, slots := 0, locals := 89 } : Room) s m ([.ref (ad 0 0), .int (nI S)] : List Value).toArray below meth c H locs 0 0 (vx_MQ below (zz_Qc (fun v9 _ _ => v9 = some (.int (nI (zls 100 N S)))) zz_no) (zz_XC zz_nx) ([.ref (ad 0 0), .int (nI S)] : List Value).toArray s ({ frames := 4, cells := 0, slots := 0, locals := 89 } : Room).cells ({ frames := 4, cells := 0, slots := 0, locals := 89 } : Room).slots zz_no) (F0 m 57 ls []) := by
          intro k
          induction k with
          | zero => intro i hi hik; omega
          | succ k ih_i =>
            intro i hii hiki H locs ls hZ hS hl
            refine lv_iload_n hx hb dX2_lossOfSet_57 rfl (lv_at hl 0 rfl) ?_
            refine lv_aload_n hx hb dX2_lossOfSet_58 rfl (lv_at hl 2 rfl) ?_
            refine zz_get (ci := 5) (C := RX2) (T := TX2) (N := 8) (v := .ref (ad 1 2)) hx hb hts hown hK (zx_ob hZ.W).1 rfl zf_X2 2 (by decide) zw_61 (fun _ h9 => h9) rfl dX2_lossOfSet_59 ?_
            refine zz_after (pc := 62) rfl (zz_runV (ci := 2) (q0 := (RJx4a65c, TJx4a65c, 3)) (b := ad 1 2) (As := []) (rest := [.int (nI i)]) hx hb hml hown hts (c_Jx4a65c_size_8abf5 l (K := K) (A := A) (ad := ad) (E := E) (cap := cap) (N := N) (G := G) (L := L) hk (by decide)) zw_88 zw_89 zw_90 zw_4 zw_91 zd_Jx4a65c_size_8abf5 ⟨Nat.le_of_ble_eq_true rfl, Nat.le_of_ble_eq_true rfl⟩ hZ.E hZ.A (zx_li hZ.W (t := 2) (by decide)).1 rfl rfl hZ.W hl.1 (Nat.le_of_ble_eq_true rfl) dX2_lossOfSet_62 ⟨Nat.le_of_ble_eq_true rfl, Nat.le_of_ble_eq_true rfl⟩) hS (fun _ h => h.elim) (fun v_11 H locs hq_9 hF_10 hS => ?_)
            refine W.widen (k := 0) (n := 0) (Nat.le_of_ble_eq_true rfl) (Nat.le_of_ble_eq_true rfl) ?_
            obtain rfl := hq_9
            have hZ := hZ.ro hF_10
            refine W.eq (g2 := F0 m 65 ls [.int (nI (N 0 2)), .int (nI i)]) rfl ?_
            refine zz_ic_ge (tgt := 111) (by first | exact hB _ _ | exact hUa _ | exact hUb _ | exact hUc _ | exact hUd _ | omega) (by first | exact hB _ _ | exact hUa _ | exact hUb _ | exact hUc _ | exact hUd _ | omega) hx hb dX2_lossOfSet_65 (by decide) (fun c_12 => ?_) (fun c_12 => ?_)
            · skip
              obtain rfl : i = N 0 2 := by omega
              refine lv_iload_n hx hb dX2_lossOfSet_111 rfl (lv_at hl 1 rfl) ?_
              refine zz_iret hx hb hr hlocks hS (Nat.le_of_ble_eq_true rfl) (Nat.le_of_ble_eq_true rfl) dX2_lossOfSet_112 ?_
              first | rfl | (simp [c_6, c_12]; done) | (simp_all; done) | (split <;> first | rfl | omega | (simp_all; done); done)
            · skip
              refine lv_aload_n hx hb dX2_lossOfSet_68 rfl (lv_at hl 2 rfl) ?_
              refine zz_get (ci := 5) (C := RX2) (T := TX2) (N := 8) (v := .ref (ad 1 2)) hx hb hts hown hK (zx_ob hZ.W).1 rfl zf_X2 2 (by decide) zw_61 (fun _ h9 => h9) rfl dX2_lossOfSet_69 ?_
              refine lv_iload_n hx hb dX2_lossOfSet_72 rfl (lv_at hl 0 rfl) ?_
              have hj_13 : i < N 0 2 := by omega
              have hp_14 : N 9 i < N 0 1 := hbk _ hj_13
              refine zz_after (pc := 73) rfl (zz_runV (ci := 2) (q0 := (RJx4a65c, TJx4a65c, 3)) (b := ad 1 2) (As := [.int (nI i)]) (rest := []) hx hb hml hown hts (c_Jx4a65c_get_915e3 l (K := K) (A := A) (ad := ad) (E := E) (cap := cap) (N := N) (G := G) (L := L) hk (by decide) (j := i) (r := (ad 5 (N 9 i))) hj_13 (zx_g2 hj_13)) zw_101 zw_102 zw_103 zw_4 zw_104 zd_Jx4a65c_get_915e3 ⟨Nat.le_of_ble_eq_true rfl, Nat.le_of_ble_eq_true rfl⟩ hZ.E hZ.A (zx_li hZ.W (t := 2) (by decide)).1 rfl rfl hZ.W hl.1 (Nat.le_of_ble_eq_true rfl) dX2_lossOfSet_73 ⟨Nat.le_of_ble_eq_true rfl, Nat.le_of_ble_eq_true rfl⟩) hS (fun _ h => h.elim) (fun v_17 H locs hq_15 hF_16 hS => ?_)
              refine W.widen (k := 0) (n := 0) (Nat.le_of_ble_eq_true rfl) (Nat.le_of_ble_eq_true rfl) ?_
              obtain rfl := hq_15
              have hZ := hZ.ro hF_16
              refine W.eq (g2 := F0 m 76 ls [.ref (ad 5 (N 9 i))]) rfl ?_
              refine va_castS hx hb hown (hts _ zw_129) (hK.1 4 _ rfl).2 (zz_rc hK (zx_pe hZ.W (q := N 9 i) hp_14).1 rfl) dX2_lossOfSet_76 ?_
              rcases (show N 11 (N 9 i) = 0 ∨ ∃ z, N 11 (N 9 i) = z + 1 by cases (N 11 (N 9 i)) with | zero => exact Or.inl rfl | succ z => exact Or.inr ⟨z, rfl⟩) with h_18 | ⟨j_19, h_18⟩
              · skip
                refine zz_getN (ci := 4) (C := RX1) (T := TX1) (N := 7) (v := .null) hx hb hts hN hown hK (zx_pe hZ.W (q := N 9 i) hp_14).1 rfl zf_X1 3 (by decide) zn_491 (fun _ h9 => h9) (congrArg (fun x => some (zz_rf (ad 3) x)) h_18) dX2_lossOfSet_79 ?_
                exact absurd h_18 (by have := hI.bw i (by omega); omega)
              · skip
                have hj_20 : j_19 < N 0 0 := by have := hI.wt (N 9 i) hp_14; omega
                refine zz_getN (ci := 4) (C := RX1) (T := TX1) (N := 7) (v := .ref (ad 3 j_19)) hx hb hts hN hown hK (zx_pe hZ.W (q := N 9 i) hp_14).1 rfl zf_X1 3 (by decide) zn_491 (fun _ h9 => h9) (congrArg (fun x => some (zz_rf (ad 3) x)) h_18) dX2_lossOfSet_79 ?_
                have e10 : j_19 = N 10 i := by (have := hI.bw i (by omega); omega)
                subst e10
                refine lv_astore (lv' := [(4, .ref (ad 3 (N 10 i))), (3, .int (nI i)), (2, .int (nI (zcs N S + zsum (fun k => 3 * znr 100 S (N 10 k) (N 0 0)) i))), (0, .ref (ad 0 0)), (1, .int (nI S))]) hx hb dX2_lossOfSet_82 hl (Nat.le_of_ble_eq_true rfl) rfl (fun ls hl => ?_)
                refine lv_iload_n hx hb dX2_lossOfSet_84 rfl (lv_at hl 2 rfl) ?_
                refine lv_aload hx hb dX2_lossOfSet_85 (lv_at hl 0 rfl) ?_
                refine lv_ifnonnull (tgt := 94) hx hb dX2_lossOfSet_87 (by decide) ?_
                refine zz_con 3 hx hb dX2_lossOfSet_94 (by decide) ?_
                refine lv_aload_n hx hb dX2_lossOfSet_95 rfl (lv_at hl 3 rfl) ?_
                refine lv_aload hx hb dX2_lossOfSet_96 (lv_at hl 0 rfl) ?_
                refine lv_iload_n hx hb dX2_lossOfSet_98 rfl (lv_at hl 4 rfl) ?_
                refine zz_after (pc := 99) rfl (zz_runV (ci := 5) (q0 := (RX2, TX2, 8)) (b := ad 0 0) (As := [.ref (ad 3 (N 10 i)), .int (nI S)]) (rest := [.int (nI 3), .int (nI (zcs N S + zsum (fun k => 3 * znr 100 S (N 10 k) (N 0 0)) i))]) hx hb hml hown hts (c_X2_distanceToSet l (K := K) (A := A) (ad := ad) (E := E) (cap := cap) (N := N) (G := G) (L := L) hI hk (by first | exact hB _ _ | exact hUa _ | exact hUb _ | exact hUc _ | exact hUd _ | omega) hj_20) zw_174 zw_176 zs_8 zw_1 zw_177 zd_X2_distanceToSet ⟨Nat.le_of_ble_eq_true rfl, Nat.le_of_ble_eq_true rfl⟩ hZ.E hZ.A (zx_ob hZ.W).1 rfl rfl hZ.W hl.1 (Nat.le_of_ble_eq_true rfl) dX2_lossOfSet_99 ⟨Nat.le_of_ble_eq_true rfl, Nat.le_of_ble_eq_true rfl⟩) hS (fun _ h => h.elim) (fun v_23 H locs hq_21 hF_22 hS => ?_)
                refine W.widen (k := 0) (n := 0) (Nat.le_of_ble_eq_true rfl) (Nat.le_of_ble_eq_true rfl) ?_
                obtain rfl := hq_21
                have hZ := hZ.ro hF_22
                refine W.eq (g2 := F0 m 102 ls [.int (nI (znr 100 S (N 10 i) (N 0 0))), .int (nI 3), .int (nI (zcs N S + zsum (fun k => 3 * znr 100 S (N 10 k) (N 0 0)) i))]) rfl ?_
                refine zz_mul hx hb dX2_lossOfSet_102 ?_
                refine zz_add hx hb dX2_lossOfSet_103 ?_
                refine lv_istore_n (lv' := [(2, .int (nI ((zcs N S + zsum (fun k => 3 * znr 100 S (N 10 k) (N 0 0)) i) + (3 * (znr 100 S (N 10 i) (N 0 0)))))), (4, .ref (ad 3 (N 10 i))), (3, .int (nI i)), (0, .ref (ad 0 0)), (1, .int (nI S))]) hx hb dX2_lossOfSet_104 rfl hl (Nat.le_of_ble_eq_true rfl) rfl (fun ls hl => ?_)
                refine zz_inc (k := 2) (lv' := [(3, .int (nI (i + 1))), (2, .int (nI ((zcs N S + zsum (fun k => 3 * znr 100 S (N 10 k) (N 0 0)) i) + (3 * (znr 100 S (N 10 i) (N 0 0)))))), (4, .ref (ad 3 (N 10 i))), (0, .ref (ad 0 0)), (1, .int (nI S))]) hx hb dX2_lossOfSet_105 hl rfl (Nat.le_of_ble_eq_true rfl) rfl (fun ls hl => ?_)
                refine lv_goto (tgt := 57) hx hb dX2_lossOfSet_108 (by decide) ?_
                refine ih_i (i + 1) (by omega) (by omega) _ _ _ ?_ hS ?_
                · exact hZ
                · skip
                  rw [show (.int (nI (zcs N S + zsum (fun k => 3 * znr 100 S (N 10 k) (N 0 0)) (i + 1))) : Value) = .int (nI ((zcs N S + zsum (fun k => 3 * znr 100 S (N 10 k) (N 0 0)) i) + (3 * (znr 100 S (N 10 i) (N 0 0))))) from congrArg Value.int (by first | rfl | (simp only [zsum]; rw [Nat.add_assoc]; done))]
                  exact lv_sub hl [0, 1, 3, 4] rfl
        refine hL_8 (N 0 2 + 1) 0 (by first | omega | exact Nat.zero_le _) (by first | omega | (rw [Nat.zero_add]; exact Nat.lt_succ_self _)) _ _ _ hZ hS ?_
        exact lv_sub hl [0, 1, 2, 3] rfl
      · skip
        refine lv_aload_n hx hb dX2_lossOfSet_15 rfl (lv_at hl 2 rfl) ?_
        refine zz_get (ci := 5) (C := RX2) (T := TX2) (N := 8) (v := .ref (ad 1 0)) hx hb hts hown hK (zx_ob hZ.W).1 rfl zf_X2 0 (by decide) zw_59 (fun _ h9 => h9) rfl dX2_lossOfSet_16 ?_
        refine lv_iload_n hx hb dX2_lossOfSet_19 rfl (lv_at hl 0 rfl) ?_
        have hj_24 : i < N 0 0 := by omega
        refine zz_after (pc := 20) rfl (zz_runV (ci := 2) (q0 := (RJx4a65c, TJx4a65c, 3)) (b := ad 1 0) (As := [.int (nI i)]) (rest := []) hx hb hml hown hts (c_Jx4a65c_get_915e3 l (K := K) (A := A) (ad := ad) (E := E) (cap := cap) (N := N) (G := G) (L := L) hk (by decide) (j := i) (r := (ad 3 i)) hj_24 (zx_g0 hj_24)) zw_101 zw_102 zw_103 zw_4 zw_104 zd_Jx4a65c_get_915e3 ⟨Nat.le_of_ble_eq_true rfl, Nat.le_of_ble_eq_true rfl⟩ hZ.E hZ.A (zx_li hZ.W (t := 0) (by decide)).1 rfl rfl hZ.W hl.1 (Nat.le_of_ble_eq_true rfl) dX2_lossOfSet_20 ⟨Nat.le_of_ble_eq_true rfl, Nat.le_of_ble_eq_true rfl⟩) hS (fun _ h => h.elim) (fun v_27 H locs hq_25 hF_26 hS => ?_)
        refine W.widen (k := 0) (n := 0) (Nat.le_of_ble_eq_true rfl) (Nat.le_of_ble_eq_true rfl) ?_
        obtain rfl := hq_25
        have hZ := hZ.ro hF_26
        refine W.eq (g2 := F0 m 23 ls [.ref (ad 3 i)]) rfl ?_
        refine va_castS hx hb hown (hts _ zw_115) (hK.1 3 _ rfl).2 (zz_rc hK (zx_fl hZ.W (f := i) hj_24).1 rfl) dX2_lossOfSet_23 ?_
        refine lv_astore (lv' := [(4, .ref (ad 3 i)), (3, .int (nI i)), (2, .int (nI (zsum (fun f => if S.testBit f = true then N 2 f else 0) i))), (0, .ref (ad 0 0)), (1, .int (nI S))]) hx hb dX2_lossOfSet_26 hl (Nat.le_of_ble_eq_true rfl) rfl (fun ls hl => ?_)
        refine lv_iload_n hx hb dX2_lossOfSet_28 rfl (lv_at hl 2 rfl) ?_
        refine lv_aload hx hb dX2_lossOfSet_29 (lv_at hl 0 rfl) ?_
        refine lv_iload_n hx hb dX2_lossOfSet_31 rfl (lv_at hl 4 rfl) ?_
        refine zz_after (pc := 32) rfl (zz_runV (ci := 3) (q0 := (RX0, TX0, 7)) (b := ad 3 i) (As := [.int (nI S)]) (rest := [.int (nI (zsum (fun f => if S.testBit f = true then N 2 f else 0) i))]) hx hb hml hown hts (c_X0_isPartOf l (K := K) (A := A) (ad := ad) (E := E) (cap := cap) (N := N) (G := G) (L := L) hI hj_24 (by first | exact hB _ _ | exact hUa _ | exact hUb _ | exact hUc _ | exact hUd _ | omega)) zw_165 zw_166 zw_167 zw_11 zw_168 zd_X0_isPartOf ⟨Nat.le_of_ble_eq_true rfl, Nat.le_of_ble_eq_true rfl⟩ hZ.E hZ.A (zx_fl hZ.W (f := i) hj_24).1 rfl rfl hZ.W hl.1 (Nat.le_of_ble_eq_true rfl) dX2_lossOfSet_32 ⟨Nat.le_of_ble_eq_true rfl, Nat.le_of_ble_eq_true rfl⟩) hS (fun _ h => h.elim) (fun v_30 H locs hq_28 hF_29 hS => ?_)
        refine W.widen (k := 0) (n := 0) (Nat.le_of_ble_eq_true rfl) (Nat.le_of_ble_eq_true rfl) ?_
        obtain rfl := hq_28
        have hZ := hZ.ro hF_29
        refine W.eq (g2 := F0 m 35 ls [.int (zz_bo (Nat.testBit S i = true)), .int (nI (zsum (fun f => if S.testBit f = true then N 2 f else 0) i))]) rfl ?_
        refine zz_bi_eq (tgt := 46) hx hb dX2_lossOfSet_35 (by decide) (fun c_31 => ?_) (fun c_31 => ?_)
        · skip
          refine zz_con 0 hx hb dX2_lossOfSet_46 (by decide) ?_
          refine zz_add hx hb dX2_lossOfSet_47 ?_
          refine lv_istore_n (lv' := [(2, .int (nI ((zsum (fun f => if S.testBit f = true then N 2 f else 0) i) + 0))), (4, .ref (ad 3 i)), (3, .int (nI i)), (0, .ref (ad 0 0)), (1, .int (nI S))]) hx hb dX2_lossOfSet_48 rfl hl (Nat.le_of_ble_eq_true rfl) rfl (fun ls hl => ?_)
          refine zz_inc (k := 2) (lv' := [(3, .int (nI (i + 1))), (2, .int (nI ((zsum (fun f => if S.testBit f = true then N 2 f else 0) i) + 0))), (4, .ref (ad 3 i)), (0, .ref (ad 0 0)), (1, .int (nI S))]) hx hb dX2_lossOfSet_49 hl rfl (Nat.le_of_ble_eq_true rfl) rfl (fun ls hl => ?_)
          refine lv_goto (tgt := 4) hx hb dX2_lossOfSet_52 (by decide) ?_
          refine ih_i (i + 1) (by omega) (by omega) _ _ _ ?_ hS ?_
          · exact hZ
          · skip
            rw [show (.int (nI (zsum (fun f => if S.testBit f = true then N 2 f else 0) (i + 1))) : Value) = .int (nI ((zsum (fun f => if S.testBit f = true then N 2 f else 0) i) + 0)) from congrArg Value.int (by first | rfl | (simp [zsum, c_6, c_31]; done))]
            exact lv_sub hl [0, 1, 3, 4] rfl
        · skip
          refine lv_aload hx hb dX2_lossOfSet_38 (lv_at hl 0 rfl) ?_
          refine zz_getN (ci := 3) (C := RX0) (T := TX0) (N := 7) (v := .int (nI (N 2 i))) hx hb hts hN hown hK (zx_fl hZ.W (f := i) hj_24).1 rfl zf_X0 2 (by decide) zn_338 (fun _ h9 => h9) rfl dX2_lossOfSet_40 ?_
          refine lv_goto (tgt := 47) hx hb dX2_lossOfSet_43 (by decide) ?_
          refine zz_add hx hb dX2_lossOfSet_47 ?_
          refine lv_istore_n (lv' := [(2, .int (nI ((zsum (fun f => if S.testBit f = true then N 2 f else 0) i) + (N 2 i)))), (4, .ref (ad 3 i)), (3, .int (nI i)), (0, .ref (ad 0 0)), (1, .int (nI S))]) hx hb dX2_lossOfSet_48 rfl hl (Nat.le_of_ble_eq_true rfl) rfl (fun ls hl => ?_)
          refine zz_inc (k := 2) (lv' := [(3, .int (nI (i + 1))), (2, .int (nI ((zsum (fun f => if S.testBit f = true then N 2 f else 0) i) + (N 2 i)))), (4, .ref (ad 3 i)), (0, .ref (ad 0 0)), (1, .int (nI S))]) hx hb dX2_lossOfSet_49 hl rfl (Nat.le_of_ble_eq_true rfl) rfl (fun ls hl => ?_)
          refine lv_goto (tgt := 4) hx hb dX2_lossOfSet_52 (by decide) ?_
          refine ih_i (i + 1) (by omega) (by omega) _ _ _ ?_ hS ?_
          · exact hZ
          · skip
            rw [show (.int (nI (zsum (fun f => if S.testBit f = true then N 2 f else 0) (i + 1))) : Value) = .int (nI ((zsum (fun f => if S.testBit f = true then N 2 f else 0) i) + (N 2 i))) from congrArg Value.int (by first | rfl | (simp [zsum, c_6, c_31]; done))]
            exact lv_sub hl [0, 1, 3, 4] rfl
  refine hL_2 (N 0 0 + 1) 0 (by first | omega | exact Nat.zero_le _) (by first | omega | (rw [Nat.zero_add]; exact Nat.lt_succ_self _)) _ _ _ hZ hS ?_
  exact lv_sub hl [0, 1, 2, 3] rfl

set_option maxHeartbeats 4000000 in
set_option maxRecDepth 100000 in
theorem c_X2_existingFloor (l : Launch) (hfl : l.stackTraces = false) {K : zz_G} {A : Nat → Prop} {ad : Nat → Nat → Nat} {E : Nat → Nat → Int32} {cap : Nat → Nat} {N : Nat → Nat → Nat} {G : Nat → Nat → Int32} {L : Nat → Int64} (hI : zq N) (hk : zk K ad cap N) (x : Int32) : zz_C l yX2_existingFloor cX2_existingFloor 2 (Option.some (FieldType.object "OpenFloors$Floor")) ({ frames := 6, cells := 1, slots := 6, locals := 96 } : Room) K A [.ref (ad 0 0), .int x] (fun H => zz_W K A ad (zx_c K ad E cap N G L) H) (fun v9 _ _ => ∃ j, j < N 0 0 ∧ x = nI j ∧ v9 = some (.ref (ad 3 j))) (fun E9 _ _ => (E9 = "java/lang/IndexOutOfBoundsException" ∧ ¬ zin x (N 0 0))) zz_no := by
  refine zz_body (by decide +kernel) (Nat.le_of_ble_eq_true rfl) ?_
  intro p e s m below meth c ls hx hb hr hml hts hown hlocks hmn htab hE hA hP hl
  have hN := hE.N
  have hK := hE.K
  have hown : s.vm.findClass RX2 = some m.cls := hown
  have hl : lv_has ls 2 [(0, .ref (ad 0 0)), (1, .int x)] := hl
  have hZ : zz_Z K A s ad (zx_c K ad E cap N G L) s.heap := ⟨hE, hA, hP⟩
  have hS : va_S zz_no s.heap s.heap [] := va_S.rf
  obtain ⟨H, hH⟩ : ∃ z, z = s.heap := ⟨_, rfl⟩
  have hS0 : va_S zz_no s.heap H [] := by rw [hH]; exact hS
  rw [← hH] at hZ
  have hE0 := hE
  clear hS
  have hS := hS0
  have hB := hI.B
  have hbk := hI.bk
  have h00 := hI.f
  have h01 := hI.p
  have h02 := hI.b
  have hk0 := hk 0 (by decide)
  have hk1 := hk 1 (by decide)
  have hk2 := hk 2 (by decide)
  show W p l e _ s m _ below meth c s.heap [] 0 0 _ (F0 m 0 ls [])
  rw [← hH]
  refine lv_iload_n hx hb dX2_existingFloor_0 rfl (lv_at hl 1 rfl) ?_
  refine lv_if_lt (tgt := 15) hx hb dX2_existingFloor_1 (by decide) (fun c_1 => ?_) (fun c_1 => ?_)
  · skip
    refine zz_throw (cls := "java/lang/IndexOutOfBoundsException") (is := 239) hx hb hfl hown hts hE0 zx_128 zw_454 zw_16 zt_239 hS (fun _ h => h) hl.1 hml dX2_existingFloor_15 dX2_existingFloor_18 dX2_existingFloor_19 dX2_existingFloor_21 dX2_existingFloor_24 htab (Nat.le_of_ble_eq_true rfl) (Nat.le_of_ble_eq_true rfl) (Nat.le_of_ble_eq_true rfl) (Nat.le_of_ble_eq_true rfl) hlocks (fun H9 hf9 => ?_) (Nat.le_of_ble_eq_true rfl) (Nat.le_of_ble_eq_true rfl)
    exact ⟨rfl, fun h => by first | exact h.1 (by assumption) | exact h.2 (Int32.not_lt.mp (by assumption))⟩
  · skip
    refine lv_iload_n hx hb dX2_existingFloor_4 rfl (lv_at hl 1 rfl) ?_
    refine lv_aload_n hx hb dX2_existingFloor_5 rfl (lv_at hl 0 rfl) ?_
    refine zz_get (ci := 5) (C := RX2) (T := TX2) (N := 8) (v := .ref (ad 1 0)) hx hb hts hown hK (zx_ob hZ.W).1 rfl zf_X2 0 (by decide) zw_59 (fun _ h9 => h9) rfl dX2_existingFloor_6 ?_
    refine zz_after (pc := 9) rfl (zz_runV (ci := 2) (q0 := (RJx4a65c, TJx4a65c, 3)) (b := ad 1 0) (As := []) (rest := [.int x]) hx hb hml hown hts (c_Jx4a65c_size_8abf5 l (K := K) (A := A) (ad := ad) (E := E) (cap := cap) (N := N) (G := G) (L := L) hk (by decide)) zw_88 zw_89 zw_90 zw_4 zw_91 zd_Jx4a65c_size_8abf5 ⟨Nat.le_of_ble_eq_true rfl, Nat.le_of_ble_eq_true rfl⟩ hZ.E hZ.A (zx_li hZ.W (t := 0) (by decide)).1 rfl rfl hZ.W hl.1 (Nat.le_of_ble_eq_true rfl) dX2_existingFloor_9 ⟨Nat.le_of_ble_eq_true rfl, Nat.le_of_ble_eq_true rfl⟩) hS (fun _ h => h.elim) (fun v_4 H locs hq_2 hF_3 hS => ?_)
    refine W.widen (k := 0) (n := 0) (Nat.le_of_ble_eq_true rfl) (Nat.le_of_ble_eq_true rfl) ?_
    obtain rfl := hq_2
    have hZ := hZ.ro hF_3
    refine W.eq (g2 := F0 m 12 ls [.int (nI (N 0 0)), .int x]) rfl ?_
    refine lv_icmp_lt (tgt := 25) hx hb dX2_existingFloor_12 (by decide) (fun c_5 => ?_) (fun c_5 => ?_)
    · skip
      obtain ⟨j, hj, rfl⟩ := zz_rng (by omega) (by assumption) (Int32.not_le.mpr c_5)
      have hjc : (nI j).toNatClampNeg = j := nI_clamp (by omega)
      have hjb : j < 2 ^ 31 := by omega
      refine lv_aload_n hx hb dX2_existingFloor_25 rfl (lv_at hl 0 rfl) ?_
      refine zz_get (ci := 5) (C := RX2) (T := TX2) (N := 8) (v := .ref (ad 1 0)) hx hb hts hown hK (zx_ob hZ.W).1 rfl zf_X2 0 (by decide) zw_59 (fun _ h9 => h9) rfl dX2_existingFloor_26 ?_
      refine lv_iload_n hx hb dX2_existingFloor_29 rfl (lv_at hl 1 rfl) ?_
      have hj_6 : j < N 0 0 := by omega
      refine zz_after (pc := 30) rfl (zz_runV (ci := 2) (q0 := (RJx4a65c, TJx4a65c, 3)) (b := ad 1 0) (As := [.int (nI j)]) (rest := []) hx hb hml hown hts (c_Jx4a65c_get_915e3 l (K := K) (A := A) (ad := ad) (E := E) (cap := cap) (N := N) (G := G) (L := L) hk (by decide) (j := j) (r := (ad 3 j)) hj_6 (zx_g0 hj_6)) zw_101 zw_102 zw_103 zw_4 zw_104 zd_Jx4a65c_get_915e3 ⟨Nat.le_of_ble_eq_true rfl, Nat.le_of_ble_eq_true rfl⟩ hZ.E hZ.A (zx_li hZ.W (t := 0) (by decide)).1 rfl rfl hZ.W hl.1 (Nat.le_of_ble_eq_true rfl) dX2_existingFloor_30 ⟨Nat.le_of_ble_eq_true rfl, Nat.le_of_ble_eq_true rfl⟩) hS (fun _ h => h.elim) (fun v_9 H locs hq_7 hF_8 hS => ?_)
      refine W.widen (k := 0) (n := 0) (Nat.le_of_ble_eq_true rfl) (Nat.le_of_ble_eq_true rfl) ?_
      obtain rfl := hq_7
      have hZ := hZ.ro hF_8
      refine W.eq (g2 := F0 m 33 ls [.ref (ad 3 j)]) rfl ?_
      refine va_castS hx hb hown (hts _ zw_115) (hK.1 3 _ rfl).2 (zz_rc hK (zx_fl hZ.W (f := j) hj_6).1 rfl) dX2_existingFloor_33 ?_
      refine zz_aret (rx := some (ad 3 j)) hx hb hr (Or.inl ⟨_, rfl⟩) hlocks hS (Nat.le_of_ble_eq_true rfl) (Nat.le_of_ble_eq_true rfl) dX2_existingFloor_36 ?_
      exact ⟨j, hj, rfl, rfl⟩
    · skip
      refine zz_throw (cls := "java/lang/IndexOutOfBoundsException") (is := 239) hx hb hfl hown hts hE0 zx_128 zw_454 zw_16 zt_239 hS (fun _ h => h) hl.1 hml dX2_existingFloor_15 dX2_existingFloor_18 dX2_existingFloor_19 dX2_existingFloor_21 dX2_existingFloor_24 htab (Nat.le_of_ble_eq_true rfl) (Nat.le_of_ble_eq_true rfl) (Nat.le_of_ble_eq_true rfl) (Nat.le_of_ble_eq_true rfl) hlocks (fun H9 hf9 => ?_) (Nat.le_of_ble_eq_true rfl) (Nat.le_of_ble_eq_true rfl)
      exact ⟨rfl, fun h => by first | exact h.1 (by assumption) | exact h.2 (Int32.not_lt.mp (by assumption))⟩

set_option maxHeartbeats 4000000 in
set_option maxRecDepth 100000 in
theorem c_X2_existingPerson (l : Launch) (hfl : l.stackTraces = false) {K : zz_G} {A : Nat → Prop} {ad : Nat → Nat → Nat} {E : Nat → Nat → Int32} {cap : Nat → Nat} {N : Nat → Nat → Nat} {G : Nat → Nat → Int32} {L : Nat → Int64} (hI : zq N) (hk : zk K ad cap N) (x : Int32) : zz_C l yX2_existingPerson cX2_existingPerson 2 (Option.some (FieldType.object "OpenFloors$Person")) ({ frames := 6, cells := 1, slots := 6, locals := 96 } : Room) K A [.ref (ad 0 0), .int x] (fun H => zz_W K A ad (zx_c K ad E cap N G L) H) (fun v9 _ _ => ∃ j, j < N 0 1 ∧ x = nI j ∧ v9 = some (.ref (ad 5 j))) (fun E9 _ _ => (E9 = "java/util/NoSuchElementException" ∧ ¬ zin x (N 0 1))) zz_no := by
  refine zz_body (by decide +kernel) (Nat.le_of_ble_eq_true rfl) ?_
  intro p e s m below meth c ls hx hb hr hml hts hown hlocks hmn htab hE hA hP hl
  have hN := hE.N
  have hK := hE.K
  have hown : s.vm.findClass RX2 = some m.cls := hown
  have hl : lv_has ls 2 [(0, .ref (ad 0 0)), (1, .int x)] := hl
  have hZ : zz_Z K A s ad (zx_c K ad E cap N G L) s.heap := ⟨hE, hA, hP⟩
  have hS : va_S zz_no s.heap s.heap [] := va_S.rf
  obtain ⟨H, hH⟩ : ∃ z, z = s.heap := ⟨_, rfl⟩
  have hS0 : va_S zz_no s.heap H [] := by rw [hH]; exact hS
  rw [← hH] at hZ
  have hE0 := hE
  clear hS
  have hS := hS0
  have hB := hI.B
  have hbk := hI.bk
  have h00 := hI.f
  have h01 := hI.p
  have h02 := hI.b
  have hk0 := hk 0 (by decide)
  have hk1 := hk 1 (by decide)
  have hk2 := hk 2 (by decide)
  show W p l e _ s m _ below meth c s.heap [] 0 0 _ (F0 m 0 ls [])
  rw [← hH]
  refine lv_iload_n hx hb dX2_existingPerson_0 rfl (lv_at hl 1 rfl) ?_
  refine lv_if_lt (tgt := 15) hx hb dX2_existingPerson_1 (by decide) (fun c_1 => ?_) (fun c_1 => ?_)
  · skip
    refine zz_throw (cls := "java/util/NoSuchElementException") (is := 241) hx hb hfl hown hts hE0 zx_116 zw_525 zw_22 zt_241 hS (fun _ h => h) hl.1 hml dX2_existingPerson_15 dX2_existingPerson_18 dX2_existingPerson_19 dX2_existingPerson_21 dX2_existingPerson_24 htab (Nat.le_of_ble_eq_true rfl) (Nat.le_of_ble_eq_true rfl) (Nat.le_of_ble_eq_true rfl) (Nat.le_of_ble_eq_true rfl) hlocks (fun H9 hf9 => ?_) (Nat.le_of_ble_eq_true rfl) (Nat.le_of_ble_eq_true rfl)
    exact ⟨rfl, fun h => by first | exact h.1 (by assumption) | exact h.2 (Int32.not_lt.mp (by assumption))⟩
  · skip
    refine lv_iload_n hx hb dX2_existingPerson_4 rfl (lv_at hl 1 rfl) ?_
    refine lv_aload_n hx hb dX2_existingPerson_5 rfl (lv_at hl 0 rfl) ?_
    refine zz_get (ci := 5) (C := RX2) (T := TX2) (N := 8) (v := .ref (ad 1 1)) hx hb hts hown hK (zx_ob hZ.W).1 rfl zf_X2 1 (by decide) zw_60 (fun _ h9 => h9) rfl dX2_existingPerson_6 ?_
    refine zz_after (pc := 9) rfl (zz_runV (ci := 2) (q0 := (RJx4a65c, TJx4a65c, 3)) (b := ad 1 1) (As := []) (rest := [.int x]) hx hb hml hown hts (c_Jx4a65c_size_8abf5 l (K := K) (A := A) (ad := ad) (E := E) (cap := cap) (N := N) (G := G) (L := L) hk (by decide)) zw_88 zw_89 zw_90 zw_4 zw_91 zd_Jx4a65c_size_8abf5 ⟨Nat.le_of_ble_eq_true rfl, Nat.le_of_ble_eq_true rfl⟩ hZ.E hZ.A (zx_li hZ.W (t := 1) (by decide)).1 rfl rfl hZ.W hl.1 (Nat.le_of_ble_eq_true rfl) dX2_existingPerson_9 ⟨Nat.le_of_ble_eq_true rfl, Nat.le_of_ble_eq_true rfl⟩) hS (fun _ h => h.elim) (fun v_4 H locs hq_2 hF_3 hS => ?_)
    refine W.widen (k := 0) (n := 0) (Nat.le_of_ble_eq_true rfl) (Nat.le_of_ble_eq_true rfl) ?_
    obtain rfl := hq_2
    have hZ := hZ.ro hF_3
    refine W.eq (g2 := F0 m 12 ls [.int (nI (N 0 1)), .int x]) rfl ?_
    refine lv_icmp_lt (tgt := 25) hx hb dX2_existingPerson_12 (by decide) (fun c_5 => ?_) (fun c_5 => ?_)
    · skip
      obtain ⟨j, hj, rfl⟩ := zz_rng (by omega) (by assumption) (Int32.not_le.mpr c_5)
      have hjc : (nI j).toNatClampNeg = j := nI_clamp (by omega)
      have hjb : j < 2 ^ 31 := by omega
      refine lv_aload_n hx hb dX2_existingPerson_25 rfl (lv_at hl 0 rfl) ?_
      refine zz_get (ci := 5) (C := RX2) (T := TX2) (N := 8) (v := .ref (ad 1 1)) hx hb hts hown hK (zx_ob hZ.W).1 rfl zf_X2 1 (by decide) zw_60 (fun _ h9 => h9) rfl dX2_existingPerson_26 ?_
      refine lv_iload_n hx hb dX2_existingPerson_29 rfl (lv_at hl 1 rfl) ?_
      have hj_6 : j < N 0 1 := by omega
      refine zz_after (pc := 30) rfl (zz_runV (ci := 2) (q0 := (RJx4a65c, TJx4a65c, 3)) (b := ad 1 1) (As := [.int (nI j)]) (rest := []) hx hb hml hown hts (c_Jx4a65c_get_915e3 l (K := K) (A := A) (ad := ad) (E := E) (cap := cap) (N := N) (G := G) (L := L) hk (by decide) (j := j) (r := (ad 5 j)) hj_6 (zx_g1 hj_6)) zw_101 zw_102 zw_103 zw_4 zw_104 zd_Jx4a65c_get_915e3 ⟨Nat.le_of_ble_eq_true rfl, Nat.le_of_ble_eq_true rfl⟩ hZ.E hZ.A (zx_li hZ.W (t := 1) (by decide)).1 rfl rfl hZ.W hl.1 (Nat.le_of_ble_eq_true rfl) dX2_existingPerson_30 ⟨Nat.le_of_ble_eq_true rfl, Nat.le_of_ble_eq_true rfl⟩) hS (fun _ h => h.elim) (fun v_9 H locs hq_7 hF_8 hS => ?_)
      refine W.widen (k := 0) (n := 0) (Nat.le_of_ble_eq_true rfl) (Nat.le_of_ble_eq_true rfl) ?_
      obtain rfl := hq_7
      have hZ := hZ.ro hF_8
      refine W.eq (g2 := F0 m 33 ls [.ref (ad 5 j)]) rfl ?_
      refine va_castS hx hb hown (hts _ zw_129) (hK.1 4 _ rfl).2 (zz_rc hK (zx_pe hZ.W (q := j) hj_6).1 rfl) dX2_existingPerson_33 ?_
      refine zz_aret (rx := some (ad 5 j)) hx hb hr (Or.inl ⟨_, rfl⟩) hlocks hS (Nat.le_of_ble_eq_true rfl) (Nat.le_of_ble_eq_true rfl) dX2_existingPerson_36 ?_
      exact ⟨j, hj, rfl, rfl⟩
    · skip
      refine zz_throw (cls := "java/util/NoSuchElementException") (is := 241) hx hb hfl hown hts hE0 zx_116 zw_525 zw_22 zt_241 hS (fun _ h => h) hl.1 hml dX2_existingPerson_15 dX2_existingPerson_18 dX2_existingPerson_19 dX2_existingPerson_21 dX2_existingPerson_24 htab (Nat.le_of_ble_eq_true rfl) (Nat.le_of_ble_eq_true rfl) (Nat.le_of_ble_eq_true rfl) (Nat.le_of_ble_eq_true rfl) hlocks (fun H9 hf9 => ?_) (Nat.le_of_ble_eq_true rfl) (Nat.le_of_ble_eq_true rfl)
      exact ⟨rfl, fun h => by first | exact h.1 (by assumption) | exact h.2 (Int32.not_lt.mp (by assumption))⟩

set_option maxHeartbeats 4000000 in
set_option maxRecDepth 100000 in
theorem c_X2_checkCost (l : Launch) (hfl : l.stackTraces = false) {K : zz_G} {A : Nat → Prop} (x : Int32) : zz_C l yX2_checkCost cX2_checkCost 1 (Option.none : Option Jvm.ClassFile.FieldType) ({ frames := 6, cells := 1, slots := 6, locals := 96 } : Room) K A [.int x] (fun _ => True) (fun v9 _ _ => v9 = none ∧ zbw x 0 99) (fun E9 _ _ => (E9 = "java/lang/IllegalArgumentException" ∧ ¬ zbw x 0 99)) zz_no := by
  refine zz_body (by decide +kernel) (Nat.le_of_ble_eq_true rfl) ?_
  intro p e s m below meth c ls hx hb hr hml hts hown hlocks hmn htab hE hA hP hl
  have hN := hE.N
  have hK := hE.K
  have hown : s.vm.findClass RX2 = some m.cls := hown
  have hl : lv_has ls 1 [(0, .int x)] := hl
  have hS : va_S zz_no s.heap s.heap [] := va_S.rf
  obtain ⟨H, hH⟩ : ∃ z, z = s.heap := ⟨_, rfl⟩
  have hS0 : va_S zz_no s.heap H [] := by rw [hH]; exact hS
  have hE0 := hE
  rw [← hH] at hE hA
  clear hS
  have hS := hS0
  show W p l e _ s m _ below meth c s.heap [] 0 0 _ (F0 m 0 ls [])
  rw [← hH]
  refine lv_iload_n hx hb dX2_checkCost_0 rfl (lv_at hl 0 rfl) ?_
  refine lv_if_lt (tgt := 10) hx hb dX2_checkCost_1 (by decide) (fun c_1 => ?_) (fun c_1 => ?_)
  · skip
    refine zz_throw (cls := "java/lang/IllegalArgumentException") (is := 243) hx hb hfl hown hts hE0 zx_45 zw_236 zw_9 zt_243 hS (fun _ h => h) hl.1 hml dX2_checkCost_10 dX2_checkCost_13 dX2_checkCost_14 dX2_checkCost_16 dX2_checkCost_19 htab (Nat.le_of_ble_eq_true rfl) (Nat.le_of_ble_eq_true rfl) (Nat.le_of_ble_eq_true rfl) (Nat.le_of_ble_eq_true rfl) hlocks (fun H9 hf9 => ?_) (Nat.le_of_ble_eq_true rfl) (Nat.le_of_ble_eq_true rfl)
    exact ⟨rfl, fun h => by first | exact h.1 (by assumption) | (exact absurd h.1 (Int32.not_le.mpr (by assumption))) | (exact absurd h.2 (by assumption))⟩
  · skip
    refine lv_iload_n hx hb dX2_checkCost_4 rfl (lv_at hl 0 rfl) ?_
    refine lv_bipush (v := nI 99) hx hb dX2_checkCost_5 (by decide) ?_
    refine lv_icmp_le (tgt := 20) hx hb dX2_checkCost_7 (by decide) (fun c_2 => ?_) (fun c_2 => ?_)
    · skip
      refine zz_vret hx hb hr hlocks hS (Nat.le_of_ble_eq_true rfl) (Nat.le_of_ble_eq_true rfl) dX2_checkCost_20 ?_
      exact ⟨rfl, Int32.not_lt.mp (by assumption), by assumption⟩
    · skip
      refine zz_throw (cls := "java/lang/IllegalArgumentException") (is := 243) hx hb hfl hown hts hE0 zx_45 zw_236 zw_9 zt_243 hS (fun _ h => h) hl.1 hml dX2_checkCost_10 dX2_checkCost_13 dX2_checkCost_14 dX2_checkCost_16 dX2_checkCost_19 htab (Nat.le_of_ble_eq_true rfl) (Nat.le_of_ble_eq_true rfl) (Nat.le_of_ble_eq_true rfl) (Nat.le_of_ble_eq_true rfl) hlocks (fun H9 hf9 => ?_) (Nat.le_of_ble_eq_true rfl) (Nat.le_of_ble_eq_true rfl)
      exact ⟨rfl, fun h => by first | exact h.1 (by assumption) | (exact absurd h.1 (Int32.not_le.mpr (by assumption))) | (exact absurd h.2 (by assumption))⟩

set_option maxHeartbeats 4000000 in
set_option maxRecDepth 100000 in
theorem c_X2_checkTeam (l : Launch) (hfl : l.stackTraces = false) {K : zz_G} {A : Nat → Prop} (x : Int32) : zz_C l yX2_checkTeam cX2_checkTeam 1 (Option.none : Option Jvm.ClassFile.FieldType) ({ frames := 6, cells := 1, slots := 6, locals := 96 } : Room) K A [.int x] (fun _ => True) (fun v9 _ _ => v9 = none ∧ zbw x 0 3) (fun E9 _ _ => (E9 = "java/lang/IllegalArgumentException" ∧ ¬ zbw x 0 3)) zz_no := by
  refine zz_body (by decide +kernel) (Nat.le_of_ble_eq_true rfl) ?_
  intro p e s m below meth c ls hx hb hr hml hts hown hlocks hmn htab hE hA hP hl
  have hN := hE.N
  have hK := hE.K
  have hown : s.vm.findClass RX2 = some m.cls := hown
  have hl : lv_has ls 1 [(0, .int x)] := hl
  have hS : va_S zz_no s.heap s.heap [] := va_S.rf
  obtain ⟨H, hH⟩ : ∃ z, z = s.heap := ⟨_, rfl⟩
  have hS0 : va_S zz_no s.heap H [] := by rw [hH]; exact hS
  have hE0 := hE
  rw [← hH] at hE hA
  clear hS
  have hS := hS0
  show W p l e _ s m _ below meth c s.heap [] 0 0 _ (F0 m 0 ls [])
  rw [← hH]
  refine lv_iload_n hx hb dX2_checkTeam_0 rfl (lv_at hl 0 rfl) ?_
  refine lv_if_lt (tgt := 9) hx hb dX2_checkTeam_1 (by decide) (fun c_1 => ?_) (fun c_1 => ?_)
  · skip
    refine zz_throw (cls := "java/lang/IllegalArgumentException") (is := 245) hx hb hfl hown hts hE0 zx_45 zw_236 zw_9 zt_245 hS (fun _ h => h) hl.1 hml dX2_checkTeam_9 dX2_checkTeam_12 dX2_checkTeam_13 dX2_checkTeam_15 dX2_checkTeam_18 htab (Nat.le_of_ble_eq_true rfl) (Nat.le_of_ble_eq_true rfl) (Nat.le_of_ble_eq_true rfl) (Nat.le_of_ble_eq_true rfl) hlocks (fun H9 hf9 => ?_) (Nat.le_of_ble_eq_true rfl) (Nat.le_of_ble_eq_true rfl)
    exact ⟨rfl, fun h => by first | (exact absurd h.1 (Int32.not_le.mpr (by assumption))) | (exact absurd (zz_le34.mp h.2) (by assumption))⟩
  · skip
    refine lv_iload_n hx hb dX2_checkTeam_4 rfl (lv_at hl 0 rfl) ?_
    refine zz_con 4 hx hb dX2_checkTeam_5 (by decide) ?_
    refine lv_icmp_lt (tgt := 19) hx hb dX2_checkTeam_6 (by decide) (fun c_2 => ?_) (fun c_2 => ?_)
    · skip
      refine zz_vret hx hb hr hlocks hS (Nat.le_of_ble_eq_true rfl) (Nat.le_of_ble_eq_true rfl) dX2_checkTeam_19 ?_
      exact ⟨rfl, Int32.not_lt.mp (by assumption), zz_le34.mpr (by assumption)⟩
    · skip
      refine zz_throw (cls := "java/lang/IllegalArgumentException") (is := 245) hx hb hfl hown hts hE0 zx_45 zw_236 zw_9 zt_245 hS (fun _ h => h) hl.1 hml dX2_checkTeam_9 dX2_checkTeam_12 dX2_checkTeam_13 dX2_checkTeam_15 dX2_checkTeam_18 htab (Nat.le_of_ble_eq_true rfl) (Nat.le_of_ble_eq_true rfl) (Nat.le_of_ble_eq_true rfl) (Nat.le_of_ble_eq_true rfl) hlocks (fun H9 hf9 => ?_) (Nat.le_of_ble_eq_true rfl) (Nat.le_of_ble_eq_true rfl)
      exact ⟨rfl, fun h => by first | (exact absurd h.1 (Int32.not_le.mpr (by assumption))) | (exact absurd (zz_le34.mp h.2) (by assumption))⟩
