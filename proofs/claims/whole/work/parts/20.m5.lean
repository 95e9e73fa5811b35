/-! by program (gen.py): contracts of methods -/
theorem zd_X3_cleans : yX3_cleans.cls ≠ "java/lang/invoke/MethodHandle" ∧ yX3_cleans.cls ≠ "java/lang/invoke/VarHandle" ∧ (parseMethodDescriptor yX3_cleans.desc).map (fun d => d.parameters.length) = some 0 := by decide +kernel
theorem zd_X3_gives : yX3_gives.cls ≠ "java/lang/invoke/MethodHandle" ∧ yX3_gives.cls ≠ "java/lang/invoke/VarHandle" ∧ (parseMethodDescriptor yX3_gives.desc).map (fun d => d.parameters.length) = some 1 := by decide +kernel
theorem zd_X3_judges : yX3_judges.cls ≠ "java/lang/invoke/MethodHandle" ∧ yX3_judges.cls ≠ "java/lang/invoke/VarHandle" ∧ (parseMethodDescriptor yX3_judges.desc).map (fun d => d.parameters.length) = some 0 := by decide +kernel
set_option maxHeartbeats 4000000 in
set_option maxRecDepth 100000 in
theorem c_X3_nextDay (l : Launch) {K : zz_G} {A : Nat → Prop} {ad : Nat → Nat → Nat} {th : Int32} {N : Nat → Nat → Nat} {G : Nat → Nat → Int32} {L : Nat → Int64} (hI : zq N) (hnn : N 12 1 ≤ 12 * N 12 0)  : zz_C l yX3_nextDay cX3_nextDay 5 (Option.some FieldType.int) ({ frames := 3, cells := 0, slots := 0, locals := 72 } : Room) K A [.ref (ad 0 0)] (fun H => zz_W K A ad (zm_c K ad th N G L) H) (fun v9 _ H9 => v9 = some (.int ((zs_day N L).2.1)) ∧ zz_W K A ad (zm_c K ad (nI (zs_day N L).1) ((zs_day N L).2.2.1) G ((zs_day N L).2.2.2)) H9) zz_nx A := by
  refine zz_body (by decide +kernel) (Nat.le_of_ble_eq_true rfl) ?_
  intro p e s m below meth c ls hx hb hr hml hts hown hlocks hmn htab hE hA hP hl
  have hN := hE.N
  have hK := hE.K
  have hown : s.vm.findClass RX3 = some m.cls := hown
  have hl : lv_has ls 5 [(0, .ref (ad 0 0))] := hl
  have hZ : zz_Z K A s ad (zm_c K ad th N G L) s.heap := ⟨hE, hA, hP⟩
  have hS : va_S zz_no s.heap s.heap [] := va_S.rf
  obtain ⟨H, hH⟩ : ∃ z, z = s.heap := ⟨_, rfl⟩
  have hS0 : va_S zz_no s.heap H [] := by rw [hH]; exact hS
  rw [← hH] at hZ
  have hE0 := hE
  clear hS
  have hS := hS0
  have hB := hI.B
  have h00 := hI.f
  have h01 := hI.p
  have h02 := hI.b
  show W p l e _ s m _ below meth c s.heap [] 0 0 _ (F0 m 0 ls [])
  rw [← hH]
  refine lv_aload_n hx hb dX3_nextDay_0 rfl (lv_at hl 0 rfl) ?_
  refine zz_get (ci := 6) (C := RX3) (T := TX3) (N := 22) (v := .int (nI (N 12 0))) hx hb hts hown hK (zm_ob hZ.W).1 rfl zf_X3 4 (by decide) zw_812 (fun _ h9 => h9) rfl dX3_nextDay_1 ?_
  refine lv_sipush (v := nI 365) hx hb dX3_nextDay_4 (by decide) ?_
  refine zz_ic_ne (tgt := 16) (by first | exact hB _ _ | exact hUa _ | exact hUb _ | exact hUc _ | exact hUd _ | omega) (by decide) hx hb dX3_nextDay_7 (by decide) (fun c_1 => ?_) (fun c_1 => ?_)
  · skip
    refine lv_aload_n hx hb dX3_nextDay_16 rfl (lv_at hl 0 rfl) ?_
    have hS : va_S A s.heap H _ := zz_Smono hS (fun _ h => h.elim)
    refine zz_after (pc := 17) rfl (zz_runV (ci := 6) (q0 := (RX3, TX3, 22)) (b := ad 0 0) (As := []) (rest := []) hx hb hml hown hts (c_X3_judges l (K := K) (A := A) (ad := ad) (th := th) (N := N) (G := G) (L := L) hI ) zw_974 zw_976 zs_43 zw_5 zw_977 zd_X3_judges ⟨Nat.le_of_ble_eq_true rfl, Nat.le_of_ble_eq_true rfl⟩ hZ.E hZ.A (zm_ob hZ.W).1 rfl rfl hZ.W hl.1 (Nat.le_of_ble_eq_true rfl) dX3_nextDay_17 ⟨Nat.le_of_ble_eq_true rfl, Nat.le_of_ble_eq_true rfl⟩) hS (fun _ h => h) (fun v_4 H locs hq_2 hF_3 hS => ?_)
    refine W.widen (k := 0) (n := 0) (Nat.le_of_ble_eq_true rfl) (Nat.le_of_ble_eq_true rfl) ?_
    obtain ⟨rfl, hW9⟩ := hq_2
    have hZ : zz_Z K A s ad (zm_c K ad th (zjn N (N 0 1)) G L) H := hZ.mut hF_3 hW9
    refine W.eq (g2 := F0 m 20 ls [.int (nI (zmiss N (N 0 1)))]) rfl ?_
    have hI1 : zq (zjn N (N 0 1)) := zjn_q hI _
    have hd := hI.d
    have hn := hI.n
    have hmb := zmiss_b hI
    have hmB : zmiss N (N 0 1) < 2 ^ 31 := by omega
    refine lv_istore_n (lv' := [(1, .int (nI (zmiss N (N 0 1)))), (0, .ref (ad 0 0))]) hx hb dX3_nextDay_20 rfl hl (Nat.le_of_ble_eq_true rfl) rfl (fun ls hl => ?_)
    refine lv_aload_n hx hb dX3_nextDay_21 rfl (lv_at hl 1 rfl) ?_
    refine lv_dup hx hb dX3_nextDay_22 rfl ?_
    refine zz_get (ci := 6) (C := RX3) (T := TX3) (N := 22) (v := .int (nI (N 12 1))) hx hb hts hown hK (zm_ob hZ.W).1 rfl zf_X3 5 (by decide) zw_813 (fun _ h9 => h9) rfl dX3_nextDay_23 ?_
    refine lv_iload_n hx hb dX3_nextDay_26 rfl (lv_at hl 0 rfl) ?_
    refine zz_add hx hb dX3_nextDay_27 ?_
    have haA_8 := (zm_ob hZ.W).2
    refine zz_put (ci := 6) (C := RX3) (T := TX3) (N := 22) (v := .int (nI ((N 12 1) + (zmiss N (N 0 1))))) (ty1 := .int) hx hb hts hown hK hS (zm_ob hZ.W).1 haA_8 rfl zf_X3 tyX3_ok nmX3 5 (by decide) zw_813 (fun _ h9 => h9) rfl (by decide +kernel) rfl rfl (Nat.le_of_ble_eq_true rfl) dX3_nextDay_28 (fun H locs ha_6 hz_7 ho_5 hS => ?_)
    have hZ : zz_Z K A s ad (zm_c K ad th (zu (zjn N (N 0 1)) 12 1 ((N 12 1) + (zmiss N (N 0 1)))) G L) H := hZ.put haA_8 hz_7 ho_5 (zm_put_noShows hZ.W ha_6 ho_5)
    have hI2 : zq (zu (zjn N (N 0 1)) 12 1 (N 12 1 + zmiss N (N 0 1))) := zn12_q hI1 (by omega) (fun h => absurd h (by decide)) (fun _ => by (rw [zjn_k (by decide)]; omega))
    have hpl : zplan (zu (zjn N (N 0 1)) 12 1 (N 12 1 + zmiss N (N 0 1))) = zplan N := zplan_co rfl rfl rfl rfl
    have hcl : zcl (zu (zjn N (N 0 1)) 12 1 (N 12 1 + zmiss N (N 0 1))) (L 2) (N 0 0) = zcl N (L 2) (N 0 0) := zcl_co (N := N) (N' := (zu (zjn N (N 0 1)) 12 1 (N 12 1 + zmiss N (N 0 1)))) rfl rfl rfl rfl _ _
    obtain ⟨M2, hM2⟩ : ∃ z, z = (zu (zjn N (N 0 1)) 12 1 (N 12 1 + zmiss N (N 0 1))) := ⟨_, rfl⟩
    rw [← hM2] at hZ hI2 hpl hcl
    have f0 : ∀ i, M2 0 i = N 0 i := fun i => by (rw [hM2]; rfl)
    have f00 := f0 0
    have f01 := f0 1
    have f02 := f0 2
    have fd : M2 12 0 = N 12 0 := by (rw [hM2, zu_i (by decide)]; rfl)
    have hB := hI2.B
    have hI0 := hI
    have hI := hI2
    have hUa : ∀ z : Nat, zplan M2 < 2 ^ 31 := fun _ => zplan_b hI2
    have hUz := zplan_b hI2
    refine lv_aload_n hx hb dX3_nextDay_31 rfl (lv_at hl 1 rfl) ?_
    refine zz_after (pc := 32) rfl (zz_runV (ci := 6) (q0 := (RX3, TX3, 22)) (b := ad 0 0) (As := []) (rest := []) hx hb hml hown hts (c_X3_cleans l (K := K) (A := A) (ad := ad) (th := th) (N := M2) (G := G) (L := L) hI ) zw_978 zw_980 zs_44 zw_5 zw_981 zd_X3_cleans ⟨Nat.le_of_ble_eq_true rfl, Nat.le_of_ble_eq_true rfl⟩ hZ.E hZ.A (zm_ob hZ.W).1 rfl rfl hZ.W hl.1 (Nat.le_of_ble_eq_true rfl) dX3_nextDay_32 ⟨Nat.le_of_ble_eq_true rfl, Nat.le_of_ble_eq_true rfl⟩) hS (fun _ h => h) (fun v_11 H locs hq_9 hF_10 hS => ?_)
    refine W.widen (k := 0) (n := 0) (Nat.le_of_ble_eq_true rfl) (Nat.le_of_ble_eq_true rfl) ?_
    obtain ⟨rfl, hW9⟩ := hq_9
    have hZ : zz_Z K A s ad (zm_c K ad th M2 G (zl L 2 (zcl M2 (L 2) (M2 0 0)))) H := hZ.mut hF_10 hW9
    refine W.eq (g2 := F0 m 35 ls []) rfl ?_
    refine lv_aload_n hx hb dX3_nextDay_35 rfl (lv_at hl 1 rfl) ?_
    refine zz_after (pc := 36) rfl (zz_runV (ci := 6) (q0 := (RX3, TX3, 22)) (b := ad 0 0) (As := []) (rest := []) hx hb hml hown hts (c_X3_best l (K := K) (A := A) (ad := ad) (th := th) (N := M2) (G := G) (L := (zl L 2 (zcl M2 (L 2) (M2 0 0)))) hI ) zw_943 zw_945 zs_40 zw_5 zw_946 zd_X3_best ⟨Nat.le_of_ble_eq_true rfl, Nat.le_of_ble_eq_true rfl⟩ hZ.E hZ.A (zm_ob hZ.W).1 rfl rfl hZ.W hl.1 (Nat.le_of_ble_eq_true rfl) dX3_nextDay_36 ⟨Nat.le_of_ble_eq_true rfl, Nat.le_of_ble_eq_true rfl⟩) hS (fun _ h => h.elim) (fun v_14 H locs hq_12 hF_13 hS => ?_)
    refine W.widen (k := 0) (n := 0) (Nat.le_of_ble_eq_true rfl) (Nat.le_of_ble_eq_true rfl) ?_
    obtain rfl := hq_12
    have hZ := hZ.ro hF_13
    refine W.eq (g2 := F0 m 39 ls [.int (nI (zplan M2))]) rfl ?_
    refine lv_istore_n (lv' := [(2, .int (nI (zplan M2))), (1, .int (nI (zmiss N (N 0 1)))), (0, .ref (ad 0 0))]) hx hb dX3_nextDay_39 rfl hl (Nat.le_of_ble_eq_true rfl) rfl (fun ls hl => ?_)
    refine zz_con 0 hx hb dX3_nextDay_40 (by decide) ?_
    refine lv_istore_n (lv' := [(3, .int (nI 0)), (2, .int (nI (zplan M2))), (1, .int (nI (zmiss N (N 0 1)))), (0, .ref (ad 0 0))]) hx hb dX3_nextDay_41 rfl hl (Nat.le_of_ble_eq_true rfl) rfl (fun ls hl => ?_)
    have hL_16 : ∀ (k i : Nat), i ≤ M2 0 0 → M2 0 0 < i + k → ∀ (H : Heap) (locs : List Loc) (ls : Array Slot), zz_Z K A s ad (zm_c K ad th (zso M2 (zplan M2) i) G (zl L 2 (zcl M2 (L 2) (M2 0 0)))) H → va_S A s.heap H locs → lv_has ls 5 [(3, .int (nI i)), (2, .int (nI (zplan M2))), (1, .int (nI (zmiss N (N 0 1)))), (0, .ref (ad 0 0))] → W p l e ({ frames := 3, cells := 0, slots := 0, locals := 72 } : Room) s m ([.ref (ad 0 0)] : List Value).toArray below meth c H locs 0 0 (vx_MQ below (zz_Qc (fun v9 _ H9 => v9 = some (.int ((zs_day N L).2.1)) ∧ zz_W K A ad (zm_c K ad (nI (zs_day N L).1) ((zs_day N L).2.2.1) G ((zs_day N L).2.2.2)) H9) A) (zz_XC zz_nx) ([.ref (ad 0 0)] : List Value).toArray s ({ frames := 3, cells := 0, slots := 0, locals := 72 } : Room).cells ({ frames := 3, cells := 0, slots := 0, locals := 72 } : Room).slots A) (F0 m 42 ls []) := by
      intro k
      induction k with
      | zero => intro i hi hik; omega
      | succ k ih_i =>
        intro i hii hiki H locs ls hZ hS hl
        refine lv_iload_n hx hb dX3_nextDay_42 rfl (lv_at hl 0 rfl) ?_
        refine lv_aload_n hx hb dX3_nextDay_43 rfl (lv_at hl 3 rfl) ?_
        refine zz_get (ci := 6) (C := RX3) (T := TX3) (N := 22) (v := .int (nI (M2 0 0))) hx hb hts hown hK (zm_ob hZ.W).1 rfl zf_X3 1 (by decide) zw_809 (fun _ h9 => h9) rfl dX3_nextDay_44 ?_
        refine zz_ic_ge (tgt := 76) (by first | exact hB _ _ | exact hUa _ | exact hUb _ | exact hUc _ | exact hUd _ | omega) (by first | exact hB _ _ | exact hUa _ | exact hUb _ | exact hUc _ | exact hUd _ | omega) hx hb dX3_nextDay_47 (by decide) (fun c_17 => ?_) (fun c_17 => ?_)
        · skip
          obtain rfl : i = M2 0 0 := by omega
          refine zz_con 0 hx hb dX3_nextDay_76 (by decide) ?_
          refine lv_istore_n (lv' := [(3, .int (nI 0)), (2, .int (nI (zplan M2))), (1, .int (nI (zmiss N (N 0 1)))), (0, .ref (ad 0 0))]) hx hb dX3_nextDay_77 rfl hl (Nat.le_of_ble_eq_true rfl) rfl (fun ls hl => ?_)
          have hL_19 : ∀ (k i : Nat), i ≤ M2 0 1 → M2 0 1 < i + k → ∀ (H : Heap) (locs : List Loc) (ls : Array Slot), zz_Z K A s ad (zm_c K ad th (zho (zso M2 (zplan M2) (M2 0 0)) i) G (zl L 2 (zcl M2 (L 2) (M2 0 0)))) H → va_S A s.heap H locs → lv_has ls 5 [(3, .int (nI i)), (2, .int (nI (zplan M2))), (1, .int (nI (zmiss N (N 0 1)))), (0, .ref (ad 0 0))] → W p l e ({ frames := 3, cells := 0, slots := 0, locals := 72 } : Room) s m ([.ref (ad 0 0)] : List Value).toArray below meth c H locs 0 0 (vx_MQ below (zz_Qc (fun v9 _ H9 => v9 = some (.int ((zs_day N L).2.1)) ∧ zz_W K A ad (zm_c K ad (nI (zs_day N L).1) ((zs_day N L).2.2.1) G ((zs_day N L).2.2.2)) H9) A) (zz_XC zz_nx) ([.ref (ad 0 0)] : List Value).toArray s ({ frames := 3, cells := 0, slots := 0, locals := 72 } : Room).cells ({ frames := 3, cells := 0, slots := 0, locals := 72 } : Room).slots A) (F0 m 78 ls []) := by
            intro k
            induction k with
            | zero => intro i hi hik; omega
            | succ k ih_i =>
              intro i hii hiki H locs ls hZ hS hl
              refine lv_iload_n hx hb dX3_nextDay_78 rfl (lv_at hl 0 rfl) ?_
              refine lv_aload_n hx hb dX3_nextDay_79 rfl (lv_at hl 3 rfl) ?_
              refine zz_get (ci := 6) (C := RX3) (T := TX3) (N := 22) (v := .int (nI (M2 0 1))) hx hb hts hown hK (zm_ob hZ.W).1 rfl zf_X3 2 (by decide) zw_810 (fun _ h9 => h9) rfl dX3_nextDay_80 ?_
              refine zz_ic_ge (tgt := 113) (by first | exact hB _ _ | exact hUa _ | exact hUb _ | exact hUc _ | exact hUd _ | omega) (by first | exact hB _ _ | exact hUa _ | exact hUb _ | exact hUc _ | exact hUd _ | omega) hx hb dX3_nextDay_83 (by decide) (fun c_20 => ?_) (fun c_20 => ?_)
              · skip
                obtain rfl : i = M2 0 1 := by omega
                have hI3 : zq (zho (zso M2 (zplan M2) (M2 0 0)) (M2 0 1)) := zho_q (zso_q hI2 _ _) _
                obtain ⟨M, hM⟩ : ∃ z, z = zho (zso M2 (zplan M2) (M2 0 0)) (M2 0 1) := ⟨_, rfl⟩
                rw [← hM] at hZ hI3
                have e0 : ∀ i, M 0 i = N 0 i := fun i => by (rw [hM, zho_k (by decide) (by decide) (by decide), zso_k (by decide), f0])
                have e00 := e0 0
                have e01 := e0 1
                have e02 := e0 2
                have ed : M 12 0 = N 12 0 := by (rw [hM, zho_k (by decide) (by decide) (by decide), zso_k (by decide), fd])
                have hB := hI3.B
                refine lv_bipush (v := nI 10) hx hb dX3_nextDay_113 (by decide) ?_
                refine zz_cv (y := nI (11 - 0) - 1) (zz_nk 10) ?_
                refine lv_istore_n (lv' := [(3, .int (nI (11 - 0) - 1)), (2, .int (nI (zplan M2))), (1, .int (nI (zmiss N (N 0 1)))), (0, .ref (ad 0 0))]) hx hb dX3_nextDay_115 rfl hl (Nat.le_of_ble_eq_true rfl) rfl (fun ls hl => ?_)
                have hL_22 : ∀ (k i : Nat), i ≤ 11 → 11 < i + k → ∀ (H : Heap) (locs : List Loc) (ls : Array Slot), zz_Z K A s ad (zm_c K ad th (zs_gd M i) G (zl L 2 (zcl M2 (L 2) (M2 0 0)))) H → va_S A s.heap H locs → lv_has ls 5 [(3, .int (nI (11 - i) - 1)), (2, .int (nI (zplan M2))), (1, .int (nI (zmiss N (N 0 1)))), (0, .ref (ad 0 0))] → W p l e ({ frames := 3, cells := 0, slots := 0, locals := 72 } : Room) s m ([.ref (ad 0 0)] : List Value).toArray below meth c H locs 0 0 (vx_MQ below (zz_Qc (fun v9 _ H9 => v9 = some (.int ((zs_day N L).2.1)) ∧ zz_W K A ad (zm_c K ad (nI (zs_day N L).1) ((zs_day N L).2.2.1) G ((zs_day N L).2.2.2)) H9) A) (zz_XC zz_nx) ([.ref (ad 0 0)] : List Value).toArray s ({ frames := 3, cells := 0, slots := 0, locals := 72 } : Room).cells ({ frames := 3, cells := 0, slots := 0, locals := 72 } : Room).slots A) (F0 m 116 ls []) := by
                  intro k
                  induction k with
                  | zero => intro i hi hik; omega
                  | succ k ih_i =>
                    intro i hii hiki H locs ls hZ hS hl
                    refine lv_iload_n hx hb dX3_nextDay_116 rfl (lv_at hl 0 rfl) ?_
                    refine lv_if_lt (tgt := 166) hx hb dX3_nextDay_117 (by decide) (fun c_23 => ?_) (fun c_23 => ?_)
                    · skip
                      have h119 := (zk_lt (by omega)).mp c_23
                      obtain rfl : i = 11 := by omega
                      have k02 : (zs_gd M 11) 0 2 = M 0 2 := zs_gd_k (by decide) _
                      have k12 : (zs_gd M 11) 12 0 = M 12 0 := zs_gd_k (by decide) _
                      have hB := (zs_gd_q hI3 11).B
                      refine lv_aload_n hx hb dX3_nextDay_166 rfl (lv_at hl 3 rfl) ?_
                      refine zz_con 0 hx hb dX3_nextDay_167 (by decide) ?_
                      have haA_27 := (zm_ob hZ.W).2
                      refine zz_put (ci := 6) (C := RX3) (T := TX3) (N := 22) (v := .int (nI 0)) (ty1 := .int) hx hb hts hown hK hS (zm_ob hZ.W).1 haA_27 rfl zf_X3 tyX3_ok nmX3 3 (by decide) zw_811 (fun _ h9 => h9) rfl (by decide +kernel) rfl rfl (Nat.le_of_ble_eq_true rfl) dX3_nextDay_168 (fun H locs ha_25 hz_26 ho_24 hS => ?_)
                      have hZ : zz_Z K A s ad (zm_c K ad th (zu (zs_gd M 11) 0 2 0) G (zl L 2 (zcl M2 (L 2) (M2 0 0)))) H := hZ.put haA_27 hz_26 ho_24 (zm_put_bookings hZ.W ha_25 ho_24)
                      refine lv_aload_n hx hb dX3_nextDay_171 rfl (lv_at hl 3 rfl) ?_
                      refine lv_dup hx hb dX3_nextDay_172 rfl ?_
                      refine zz_get (ci := 6) (C := RX3) (T := TX3) (N := 22) (v := .int (nI ((zs_gd M 11) 12 0))) hx hb hts hown hK (zm_ob hZ.W).1 rfl zf_X3 4 (by decide) zw_812 (fun _ h9 => h9) rfl dX3_nextDay_173 ?_
                      refine zz_con 1 hx hb dX3_nextDay_176 (by decide) ?_
                      refine zz_add hx hb dX3_nextDay_177 ?_
                      have haA_31 := (zm_ob hZ.W).2
                      refine zz_put (ci := 6) (C := RX3) (T := TX3) (N := 22) (v := .int (nI (((zs_gd M 11) 12 0) + 1))) (ty1 := .int) hx hb hts hown hK hS (zm_ob hZ.W).1 haA_31 rfl zf_X3 tyX3_ok nmX3 4 (by decide) zw_812 (fun _ h9 => h9) rfl (by decide +kernel) rfl rfl (Nat.le_of_ble_eq_true rfl) dX3_nextDay_178 (fun H locs ha_29 hz_30 ho_28 hS => ?_)
                      have hZ : zz_Z K A s ad (zm_c K ad th (zu (zu (zs_gd M 11) 0 2 0) 12 0 (((zs_gd M 11) 12 0) + 1)) G (zl L 2 (zcl M2 (L 2) (M2 0 0)))) H := hZ.put haA_31 hz_30 ho_28 (zm_put_day hZ.W ha_29 ho_28)
                      refine lv_aload_n hx hb dX3_nextDay_181 rfl (lv_at hl 3 rfl) ?_
                      refine lv_iload_n hx hb dX3_nextDay_182 rfl (lv_at hl 2 rfl) ?_
                      refine zz_after (pc := 183) rfl (zz_runV (ci := 6) (q0 := (RX3, TX3, 22)) (b := ad 0 0) (As := [.int (nI (zmiss N (N 0 1)))]) (rest := []) hx hb hml hown hts (c_X3_tells l (K := K) (A := A) (ad := ad) (th := th) (N := (zu (zu (zs_gd M 11) 0 2 0) 12 0 (((zs_gd M 11) 12 0) + 1))) (G := G) (L := (zl L 2 (zcl M2 (L 2) (M2 0 0)))) (nI (zmiss N (N 0 1)))) zw_891 zw_893 zs_35 zw_5 zw_894 zd_X3_tells ⟨Nat.le_of_ble_eq_true rfl, Nat.le_of_ble_eq_true rfl⟩ hZ.E hZ.A (zm_ob hZ.W).1 rfl rfl hZ.W hl.1 (Nat.le_of_ble_eq_true rfl) dX3_nextDay_183 ⟨Nat.le_of_ble_eq_true rfl, Nat.le_of_ble_eq_true rfl⟩) hS (fun _ h => h) (fun v_34 H locs hq_32 hF_33 hS => ?_)
                      refine W.widen (k := 0) (n := 0) (Nat.le_of_ble_eq_true rfl) (Nat.le_of_ble_eq_true rfl) ?_
                      obtain ⟨rfl, hW9⟩ := hq_32
                      have hZ : zz_Z K A s ad (zm_c K ad (nI 0) (zu (zu (zs_gd M 11) 0 2 0) 12 0 (((zs_gd M 11) 12 0) + 1)) G (zl L 2 (zcl M2 (L 2) (M2 0 0)))) H := hZ.mut hF_33 hW9
                      refine W.eq (g2 := F0 m 186 ls [.int (nI (zmiss N (N 0 1)))]) rfl ?_
                      refine zz_iret hx hb hr hlocks hS (Nat.le_of_ble_eq_true rfl) (Nat.le_of_ble_eq_true rfl) dX3_nextDay_186 ?_
                      have e9 : zs_day N L = (0, nI (zmiss N (N 0 1)), zs_dayN N, zl L 2 (zcl N (L 2) (N 0 0))) := by (unfold zs_day; rw [if_neg (by assumption)])
                      rw [e9]
                      refine ⟨rfl, ?_⟩
                      have hag : zag (zdM N) M := by
                        intro k h11 h12
                        funext i
                        have ez : ∀ k i, k ≠ 12 → M2 k i = zjn N (N 0 1) k i := fun k i h => by (rw [hM2, zu_k h])
                        rw [hM]; unfold zdM zho zso; rw [hpl, f00, f01, ez k i h12]
                      have e11 : ∀ k i, k ≠ 11 → zs_dayN N k i = (zu (zu (zs_gd M 11) 0 2 0) 12 0 (((zs_gd M 11) 12 0) + 1)) k i := by
                        intro k i hk
                        have hM12 : ∀ i, M 12 i = M2 12 i := fun i => by rw [hM, zho_k (by decide) (by decide) (by decide), zso_k (by decide)]
                        unfold zs_dayN
                        rw [if_neg (fun z => hk z.1)]
                        by_cases h12 : k = 12
                        · subst h12
                          by_cases h0 : i = 0
                          · subst h0; rw [zu_i (by decide), zu_s, zu_s, k12, ed]
                          · by_cases h1 : i = 1
                            · subst h1; rw [zu_s, zu_i h0, zu_k (by decide), zs_gd_k (by decide), hM12, hM2, zu_s]
                            · rw [zu_i h1, zu_i h0, zu_i h0, zu_k (by decide), zu_k (by decide), zs_gd_k (by decide), zs_gd_k (by decide), hM12, hM2, zu_i h1, zjn_k (by decide), zdM_k (by decide) (by decide) (by decide) (by decide) (by decide)]
                        · rw [zu_k h12, zu_k h12, zu_k h12]
                          by_cases h02 : k = 0 ∧ i = 2
                          · obtain ⟨rfl, rfl⟩ := h02; rw [zu_s, zu_s]
                          · rw [zu_n h02, zu_n h02, zs_gd_co hag 11 k hk h12]
                      show zz_W K A ad (zm_c K ad (nI 0) (zs_dayN N) G (zl L 2 (zcl N (L 2) (N 0 0)))) _
                      rw [zm_n11 e11, ← hcl, ← f00]
                      exact hZ.W
                    · skip
                      have h119 : 11 - i ≠ 0 := fun z => c_23 ((zk_lt (by omega)).mpr z)
                      have hs1 : 11 - i = (10 - i) + 1 := by omega
                      rw [hs1, ← zz_nk] at hl
                      refine zz_con 0 hx hb dX3_nextDay_120 (by decide) ?_
                      refine lv_istore (lv' := [(4, .int (nI 0)), (3, .int (nI (10 - i))), (2, .int (nI (zplan M2))), (1, .int (nI (zmiss N (N 0 1)))), (0, .ref (ad 0 0))]) hx hb dX3_nextDay_121 hl (Nat.le_of_ble_eq_true rfl) rfl (fun ls hl => ?_)
                      have hL_36 : ∀ (k i2 : Nat), i2 ≤ M 0 2 → M 0 2 < i2 + k → ∀ (H : Heap) (locs : List Loc) (ls : Array Slot), zz_Z K A s ad (zm_c K ad th (zs_gk (zs_gd M i) (10 - i) i2) G (zl L 2 (zcl M2 (L 2) (M2 0 0)))) H → va_S A s.heap H locs → lv_has ls 5 [(4, .int (nI i2)), (3, .int (nI (10 - i))), (2, .int (nI (zplan M2))), (1, .int (nI (zmiss N (N 0 1)))), (0, .ref (ad 0 0))] → W p l e ({ frames := 3, cells := 0, slots := 0, locals := 72 } : Room) s m ([.ref (ad 0 0)] : List Value).toArray below meth c H locs 0 0 (vx_MQ below (zz_Qc (fun v9 _ H9 => v9 = some (.int ((zs_day N L).2.1)) ∧ zz_W K A ad (zm_c K ad (nI (zs_day N L).1) ((zs_day N L).2.2.1) G ((zs_day N L).2.2.2)) H9) A) (zz_XC zz_nx) ([.ref (ad 0 0)] : List Value).toArray s ({ frames := 3, cells := 0, slots := 0, locals := 72 } : Room).cells ({ frames := 3, cells := 0, slots := 0, locals := 72 } : Room).slots A) (F0 m 123 ls []) := by
                        intro k
                        induction k with
                        | zero => intro i hi hik; omega
                        | succ k ih_i2 =>
                          intro i2 hii2 hiki2 H locs ls hZ hS hl
                          have hI4 : zq (zs_gk (zs_gd M i) (10 - i) i2) := zs_gk_q (zs_gd_q hI3 i) _ i2
                          have hB := hI4.B
                          have j0 : (zs_gk (zs_gd M i) (10 - i) i2) 0 0 = M 0 0 := by rw [zs_gk_k (by decide), zs_gd_k (by decide)]
                          have j1 : (zs_gk (zs_gd M i) (10 - i) i2) 0 1 = M 0 1 := by rw [zs_gk_k (by decide), zs_gd_k (by decide)]
                          have j2 : (zs_gk (zs_gd M i) (10 - i) i2) 0 2 = M 0 2 := by rw [zs_gk_k (by decide), zs_gd_k (by decide)]
                          have hI := hI4
                          have h5 := (hI4.sm ((zs_gk (zs_gd M i) (10 - i) i2) 9 i2)).2.2.2.1
                          refine lv_iload hx hb dX3_nextDay_123 (lv_at hl 0 rfl) ?_
                          refine lv_aload_n hx hb dX3_nextDay_125 rfl (lv_at hl 4 rfl) ?_
                          refine zz_get (ci := 6) (C := RX3) (T := TX3) (N := 22) (v := .int (nI ((zs_gk (zs_gd M i) (10 - i) i2) 0 2))) hx hb hts hown hK (zm_ob hZ.W).1 rfl zf_X3 3 (by decide) zw_811 (fun _ h9 => h9) rfl dX3_nextDay_126 ?_
                          refine zz_ic_ge (tgt := 160) (by first | exact hB _ _ | exact hUa _ | exact hUb _ | exact hUc _ | exact hUd _ | omega) (by first | exact hB _ _ | exact hUa _ | exact hUb _ | exact hUc _ | exact hUd _ | omega) hx hb dX3_nextDay_129 (by decide) (fun c_37 => ?_) (fun c_37 => ?_)
                          · skip
                            obtain rfl : i2 = M 0 2 := by omega
                            refine lv_iinc (v := nI (10 - i) + (-1)) (k := 1) (lv' := [(3, .int (nI (10 - i) + (-1))), (4, .int (nI (M 0 2))), (2, .int (nI (zplan M2))), (1, .int (nI (zmiss N (N 0 1)))), (0, .ref (ad 0 0))]) hx hb dX3_nextDay_160 hl rfl (by rfl) (Nat.le_of_ble_eq_true rfl) rfl (fun ls hl => ?_)
                            rw [show (.int (nI (10 - i) + (-1)) : Value) = .int (nI (11 - (i + 1)) - 1) from congrArg Value.int (by rw [show 11 - (i + 1) = 10 - i by omega]; exact (Int32.sub_eq_add_neg _ _).symm)] at hl
                            refine lv_goto (tgt := 116) hx hb dX3_nextDay_163 (by decide) ?_
                            refine ih_i (i + 1) (by omega) (by omega) _ _ _ ?_ hS ?_
                            · exact hZ
                            · skip
                              exact lv_sub hl [0, 2, 3, 4] rfl
                          · skip
                            have hbk := hI4.bk i2 (by omega)
                            refine lv_aload_n hx hb dX3_nextDay_132 rfl (lv_at hl 4 rfl) ?_
                            refine zz_get (ci := 6) (C := RX3) (T := TX3) (N := 22) (v := .ref (ad 1 6)) hx hb hts hown hK (zm_ob hZ.W).1 rfl zf_X3 12 (by decide) zw_820 (fun _ h9 => h9) rfl dX3_nextDay_133 ?_
                            refine lv_aload_n hx hb dX3_nextDay_136 rfl (lv_at hl 4 rfl) ?_
                            refine zz_get (ci := 6) (C := RX3) (T := TX3) (N := 22) (v := .ref (ad 1 11)) hx hb hts hown hK (zm_ob hZ.W).1 rfl zf_X3 17 (by decide) zw_825 (fun _ h9 => h9) rfl dX3_nextDay_137 ?_
                            refine lv_iload hx hb dX3_nextDay_140 (lv_at hl 0 rfl) ?_
                            refine zz_iald (y := nI ((zs_gk (zs_gd M i) (10 - i) i2) 9 i2)) hx hb hK (zm_booker hZ.W).1 (vp_in_nI (show i2 < 12 by omega) (by decide)) dX3_nextDay_142 (by rw [nI_clamp (by omega)] <;> rfl) ?_
                            refine zz_iald (y := nI ((zs_gk (zs_gd M i) (10 - i) i2) 5 ((zs_gk (zs_gd M i) (10 - i) i2) 9 i2))) hx hb hK (zm_standing hZ.W).1 (vp_in_nI (show (zs_gk (zs_gd M i) (10 - i) i2) 9 i2 < 12 by omega) (by decide)) dX3_nextDay_143 (by rw [nI_clamp (by omega)] <;> rfl) ?_
                            refine lv_iload_n hx hb dX3_nextDay_144 rfl (lv_at hl 1 rfl) ?_
                            refine zz_ic_ne (tgt := 154) (by first | exact hB _ _ | exact hUa _ | exact hUb _ | exact hUc _ | exact hUd _ | omega) (by first | exact hB _ _ | exact hUa _ | exact hUb _ | exact hUc _ | exact hUd _ | omega) hx hb dX3_nextDay_145 (by decide) (fun c_38 => ?_) (fun c_38 => ?_)
                            · skip
                              refine zz_inc (k := 0) (lv' := [(4, .int (nI (i2 + 1))), (3, .int (nI (10 - i))), (2, .int (nI (zplan M2))), (1, .int (nI (zmiss N (N 0 1)))), (0, .ref (ad 0 0))]) hx hb dX3_nextDay_154 hl rfl (Nat.le_of_ble_eq_true rfl) rfl (fun ls hl => ?_)
                              refine lv_goto (tgt := 123) hx hb dX3_nextDay_157 (by decide) ?_
                              refine ih_i2 (i2 + 1) (by omega) (by omega) _ _ _ ?_ hS ?_
                              · (show zz_Z K A s ad (zm_c K ad th (zs_g1 (zs_gk (zs_gd M i) (10 - i) i2) (10 - i) i2) G (zl L 2 (zcl M2 (L 2) (M2 0 0)))) H; unfold zs_g1; first | (rw [if_pos (by assumption)]; exact hZ) | (rw [if_neg (by assumption)]; exact hZ))
                              · skip
                                exact lv_sub hl [0, 1, 2, 3, 4] rfl
                            · skip
                              refine lv_aload_n hx hb dX3_nextDay_148 rfl (lv_at hl 4 rfl) ?_
                              refine lv_iload hx hb dX3_nextDay_149 (lv_at hl 0 rfl) ?_
                              refine zz_after (pc := 151) rfl (zz_runV (ci := 6) (q0 := (RX3, TX3, 22)) (b := ad 0 0) (As := [.int (nI i2)]) (rest := []) hx hb hml hown hts (c_X3_gives l (K := K) (A := A) (ad := ad) (th := th) (N := (zs_gk (zs_gd M i) (10 - i) i2)) (G := G) (L := (zl L 2 (zcl M2 (L 2) (M2 0 0)))) hI (by omega)) zw_984 zw_986 zs_45 zw_5 zw_987 zd_X3_gives ⟨Nat.le_of_ble_eq_true rfl, Nat.le_of_ble_eq_true rfl⟩ hZ.E hZ.A (zm_ob hZ.W).1 rfl rfl hZ.W hl.1 (Nat.le_of_ble_eq_true rfl) dX3_nextDay_151 ⟨Nat.le_of_ble_eq_true rfl, Nat.le_of_ble_eq_true rfl⟩) hS (fun _ h => h) (fun v_41 H locs hq_39 hF_40 hS => ?_)
                              refine W.widen (k := 0) (n := 0) (Nat.le_of_ble_eq_true rfl) (Nat.le_of_ble_eq_true rfl) ?_
                              obtain ⟨rfl, hW9⟩ := hq_39
                              have hZ : zz_Z K A s ad (zm_c K ad th (zu (zs_gk (zs_gd M i) (10 - i) i2) 6 ((zs_gk (zs_gd M i) (10 - i) i2) 9 i2) (zgv (zs_gk (zs_gd M i) (10 - i) i2) i2 ((zs_gk (zs_gd M i) (10 - i) i2) 0 0))) G (zl L 2 (zcl M2 (L 2) (M2 0 0)))) H := hZ.mut hF_40 hW9
                              refine W.eq (g2 := F0 m 154 ls []) rfl ?_
                              refine zz_inc (k := 0) (lv' := [(4, .int (nI (i2 + 1))), (3, .int (nI (10 - i))), (2, .int (nI (zplan M2))), (1, .int (nI (zmiss N (N 0 1)))), (0, .ref (ad 0 0))]) hx hb dX3_nextDay_154 hl rfl (Nat.le_of_ble_eq_true rfl) rfl (fun ls hl => ?_)
                              refine lv_goto (tgt := 123) hx hb dX3_nextDay_157 (by decide) ?_
                              refine ih_i2 (i2 + 1) (by omega) (by omega) _ _ _ ?_ hS ?_
                              · (show zz_Z K A s ad (zm_c K ad th (zs_g1 (zs_gk (zs_gd M i) (10 - i) i2) (10 - i) i2) G (zl L 2 (zcl M2 (L 2) (M2 0 0)))) H; unfold zs_g1; first | (rw [if_pos (by assumption)]; exact hZ) | (rw [if_neg (by assumption)]; exact hZ))
                              · skip
                                exact lv_sub hl [0, 1, 2, 3, 4] rfl
                      refine hL_36 (M 0 2 + 1) 0 (by first | omega | exact Nat.zero_le _) (by first | omega | (rw [Nat.zero_add]; exact Nat.lt_succ_self _)) _ _ _ ?_ hS ?_
                      · exact hZ
                      exact lv_sub hl [0, 1, 2, 3, 4] rfl
                refine hL_22 (11 + 1) 0 (by first | omega | exact Nat.zero_le _) (by first | omega | (rw [Nat.zero_add]; exact Nat.lt_succ_self _)) _ _ _ ?_ hS ?_
                · exact hZ
                exact lv_sub hl [0, 1, 2, 3] rfl
              · skip
                refine lv_aload_n hx hb dX3_nextDay_86 rfl (lv_at hl 3 rfl) ?_
                refine zz_get (ci := 6) (C := RX3) (T := TX3) (N := 22) (v := .ref (ad 1 7)) hx hb hts hown hK (zm_ob hZ.W).1 rfl zf_X3 13 (by decide) zw_821 (fun _ h9 => h9) rfl dX3_nextDay_87 ?_
                refine lv_iload_n hx hb dX3_nextDay_90 rfl (lv_at hl 0 rfl) ?_
                refine lv_iconst (v := (-1)) hx hb dX3_nextDay_91 (by decide) ?_
                have haA_45 := (zm_seat hZ.W).2
                refine zz_iast (x := (-1)) hx hb hK hS (zm_seat hZ.W).1 haA_45 (vp_in_nI (show i < 12 by omega) (by decide)) dX3_nextDay_92 (fun H locs ha_43 hz_44 ho_42 hS => ?_)
                have hZ : zz_Z K A s ad (zm_c K ad th (zu (zho (zso M2 (zplan M2) (M2 0 0)) i) 6 i 0) G (zl L 2 (zcl M2 (L 2) (M2 0 0)))) H := hZ.put haA_45 hz_44 ho_42 (zm_put_a_seat hZ.W (by omega) (nI_clamp (by omega)) (by decide) ha_43 ho_42)
                refine lv_aload_n hx hb dX3_nextDay_93 rfl (lv_at hl 3 rfl) ?_
                refine zz_get (ci := 6) (C := RX3) (T := TX3) (N := 22) (v := .ref (ad 1 8)) hx hb hts hown hK (zm_ob hZ.W).1 rfl zf_X3 14 (by decide) zw_822 (fun _ h9 => h9) rfl dX3_nextDay_94 ?_
                refine lv_iload_n hx hb dX3_nextDay_97 rfl (lv_at hl 0 rfl) ?_
                refine zz_con 0 hx hb dX3_nextDay_98 (by decide) ?_
                have haA_49 := (zm_isIn hZ.W).2
                refine zz_zast (x := nI 0) hx hb hK hS (zm_isIn hZ.W).1 haA_49 (vp_in_nI (show i < 12 by omega) (by decide)) (show nI 0 = 0 ∨ nI 0 = 1 by decide) dX3_nextDay_99 (fun H locs ha_47 hz_48 ho_46 hS => ?_)
                have hZ : zz_Z K A s ad (zm_c K ad th (zu (zu (zho (zso M2 (zplan M2) (M2 0 0)) i) 6 i 0) 7 i 0) G (zl L 2 (zcl M2 (L 2) (M2 0 0)))) H := hZ.put haA_49 hz_48 ho_46 (zm_put_a_isIn hZ.W (by omega) (nI_clamp (by omega)) rfl ha_47 ho_46)
                refine lv_aload_n hx hb dX3_nextDay_100 rfl (lv_at hl 3 rfl) ?_
                refine zz_get (ci := 6) (C := RX3) (T := TX3) (N := 22) (v := .ref (ad 1 9)) hx hb hts hown hK (zm_ob hZ.W).1 rfl zf_X3 15 (by decide) zw_823 (fun _ h9 => h9) rfl dX3_nextDay_101 ?_
                refine lv_iload_n hx hb dX3_nextDay_104 rfl (lv_at hl 0 rfl) ?_
                refine zz_con 0 hx hb dX3_nextDay_105 (by decide) ?_
                have haA_53 := (zm_hasCome hZ.W).2
                refine zz_zast (x := nI 0) hx hb hK hS (zm_hasCome hZ.W).1 haA_53 (vp_in_nI (show i < 12 by omega) (by decide)) (show nI 0 = 0 ∨ nI 0 = 1 by decide) dX3_nextDay_106 (fun H locs ha_51 hz_52 ho_50 hS => ?_)
                have hZ : zz_Z K A s ad (zm_c K ad th (zu (zu (zu (zho (zso M2 (zplan M2) (M2 0 0)) i) 6 i 0) 7 i 0) 8 i 0) G (zl L 2 (zcl M2 (L 2) (M2 0 0)))) H := hZ.put haA_53 hz_52 ho_50 (zm_put_a_hasCome hZ.W (by omega) (nI_clamp (by omega)) rfl ha_51 ho_50)
                refine zz_inc (k := 0) (lv' := [(3, .int (nI (i + 1))), (2, .int (nI (zplan M2))), (1, .int (nI (zmiss N (N 0 1)))), (0, .ref (ad 0 0))]) hx hb dX3_nextDay_107 hl rfl (Nat.le_of_ble_eq_true rfl) rfl (fun ls hl => ?_)
                refine lv_goto (tgt := 78) hx hb dX3_nextDay_110 (by decide) ?_
                refine ih_i (i + 1) (by omega) (by omega) _ _ _ ?_ hS ?_
                · rw [← zho_s]; exact hZ
                · skip
                  exact lv_sub hl [0, 1, 2, 3] rfl
          refine hL_19 (M2 0 1 + 1) 0 (by first | omega | exact Nat.zero_le _) (by first | omega | (rw [Nat.zero_add]; exact Nat.lt_succ_self _)) _ _ _ ?_ hS ?_
          · rw [zho_0]; exact hZ
          exact lv_sub hl [0, 1, 2, 3] rfl
        · skip
          refine lv_aload_n hx hb dX3_nextDay_50 rfl (lv_at hl 3 rfl) ?_
          refine zz_get (ci := 6) (C := RX3) (T := TX3) (N := 22) (v := .ref (ad 1 4)) hx hb hts hown hK (zm_ob hZ.W).1 rfl zf_X3 10 (by decide) zw_818 (fun _ h9 => h9) rfl dX3_nextDay_51 ?_
          refine lv_iload_n hx hb dX3_nextDay_54 rfl (lv_at hl 0 rfl) ?_
          refine lv_iload_n hx hb dX3_nextDay_55 rfl (lv_at hl 1 rfl) ?_
          refine lv_iload_n hx hb dX3_nextDay_56 rfl (lv_at hl 0 rfl) ?_
          refine lv_ishr hx hb dX3_nextDay_57 ?_
          refine zz_con 1 hx hb dX3_nextDay_58 (by decide) ?_
          refine lv_iand hx hb dX3_nextDay_59 ?_
          refine zz_con 1 hx hb dX3_nextDay_60 (by decide) ?_
          refine zz_bt_ne (tgt := 68) (by first | exact hB _ _ | exact hUa _ | exact hUb _ | exact hUc _ | exact hUd _ | omega) (by omega) hx hb dX3_nextDay_61 (by decide) (fun c_54 => ?_) (fun c_54 => ?_)
          · skip
            refine zz_con 0 hx hb dX3_nextDay_68 (by decide) ?_
            have haA_58 := (zm_isOpen hZ.W).2
            refine zz_zast (x := nI 0) hx hb hK hS (zm_isOpen hZ.W).1 haA_58 (vp_in_nI (show i < 6 by omega) (by decide)) (show nI 0 = 0 ∨ nI 0 = 1 by decide) dX3_nextDay_69 (fun H locs ha_56 hz_57 ho_55 hS => ?_)
            have hZ : zz_Z K A s ad (zm_c K ad th (zu (zso M2 (zplan M2) i) 3 i 0) G (zl L 2 (zcl M2 (L 2) (M2 0 0)))) H := hZ.put haA_58 hz_57 ho_55 (zm_put_a_isOpen hZ.W (by omega) (nI_clamp (by omega)) rfl ha_56 ho_55)
            refine zz_inc (k := 0) (lv' := [(3, .int (nI (i + 1))), (2, .int (nI (zplan M2))), (1, .int (nI (zmiss N (N 0 1)))), (0, .ref (ad 0 0))]) hx hb dX3_nextDay_70 hl rfl (Nat.le_of_ble_eq_true rfl) rfl (fun ls hl => ?_)
            refine lv_goto (tgt := 42) hx hb dX3_nextDay_73 (by decide) ?_
            refine ih_i (i + 1) (by omega) (by omega) _ _ _ ?_ hS ?_
            · rw [← zso_s]; first | (rw [if_pos (by assumption)]; exact hZ) | (rw [if_neg (by assumption)]; exact hZ)
            · skip
              exact lv_sub hl [0, 1, 2, 3] rfl
          · skip
            refine zz_con 1 hx hb dX3_nextDay_64 (by decide) ?_
            refine lv_goto (tgt := 69) hx hb dX3_nextDay_65 (by decide) ?_
            have haA_62 := (zm_isOpen hZ.W).2
            refine zz_zast (x := nI 1) hx hb hK hS (zm_isOpen hZ.W).1 haA_62 (vp_in_nI (show i < 6 by omega) (by decide)) (show nI 1 = 0 ∨ nI 1 = 1 by decide) dX3_nextDay_69 (fun H locs ha_60 hz_61 ho_59 hS => ?_)
            have hZ : zz_Z K A s ad (zm_c K ad th (zu (zso M2 (zplan M2) i) 3 i 1) G (zl L 2 (zcl M2 (L 2) (M2 0 0)))) H := hZ.put haA_62 hz_61 ho_59 (zm_put_a_isOpen hZ.W (by omega) (nI_clamp (by omega)) rfl ha_60 ho_59)
            refine zz_inc (k := 0) (lv' := [(3, .int (nI (i + 1))), (2, .int (nI (zplan M2))), (1, .int (nI (zmiss N (N 0 1)))), (0, .ref (ad 0 0))]) hx hb dX3_nextDay_70 hl rfl (Nat.le_of_ble_eq_true rfl) rfl (fun ls hl => ?_)
            refine lv_goto (tgt := 42) hx hb dX3_nextDay_73 (by decide) ?_
            refine ih_i (i + 1) (by omega) (by omega) _ _ _ ?_ hS ?_
            · rw [← zso_s]; first | (rw [if_pos (by assumption)]; exact hZ) | (rw [if_neg (by assumption)]; exact hZ)
            · skip
              exact lv_sub hl [0, 1, 2, 3] rfl
    refine hL_16 (M2 0 0 + 1) 0 (by first | omega | exact Nat.zero_le _) (by first | omega | (rw [Nat.zero_add]; exact Nat.lt_succ_self _)) _ _ _ ?_ hS ?_
    · rw [zso_0]; exact hZ
    exact lv_sub hl [0, 1, 2, 3] rfl
  · skip
    refine lv_aload_n hx hb dX3_nextDay_10 rfl (lv_at hl 0 rfl) ?_
    refine zz_con 1 hx hb dX3_nextDay_11 (by decide) ?_
    have hS : va_S A s.heap H _ := zz_Smono hS (fun _ h => h.elim)
    refine zz_after (pc := 12) rfl (zz_runV (ci := 6) (q0 := (RX3, TX3, 22)) (b := ad 0 0) (As := [.int (nI 1)]) (rest := []) hx hb hml hown hts (c_X3_fails l (K := K) (A := A) (ad := ad) (th := th) (N := N) (G := G) (L := L) (nI 1)) zw_887 zw_889 zs_34 zw_5 zw_890 zd_X3_fails ⟨Nat.le_of_ble_eq_true rfl, Nat.le_of_ble_eq_true rfl⟩ hZ.E hZ.A (zm_ob hZ.W).1 rfl rfl hZ.W hl.1 (Nat.le_of_ble_eq_true rfl) dX3_nextDay_12 ⟨Nat.le_of_ble_eq_true rfl, Nat.le_of_ble_eq_true rfl⟩) hS (fun _ h => h) (fun v_65 H locs hq_63 hF_64 hS => ?_)
    refine W.widen (k := 0) (n := 0) (Nat.le_of_ble_eq_true rfl) (Nat.le_of_ble_eq_true rfl) ?_
    obtain ⟨rfl, hW9⟩ := hq_63
    have hZ : zz_Z K A s ad (zm_c K ad (nI 1) N G L) H := hZ.mut hF_64 hW9
    refine W.eq (g2 := F0 m 15 ls [.int (nI 0)]) rfl ?_
    refine zz_iret hx hb hr hlocks hS (Nat.le_of_ble_eq_true rfl) (Nat.le_of_ble_eq_true rfl) dX3_nextDay_15 ?_
    refine ⟨by simp [zs_day, c_1], ?_⟩
    simpa [zs_day, c_1] using hZ.W
