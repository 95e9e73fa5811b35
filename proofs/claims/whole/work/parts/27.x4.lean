/-! by program (gen.py): contracts of methods -/
theorem zz_minN2 {a b : Nat} (ha : a < 2 ^ 31) (hb : b < 2 ^ 31) : (if nI b < nI a then nI b else nI a) = nI (min a b) := zz_minNX ha hb
theorem zsum_b6 {N : zN} (h : zq N) {f : Nat → Nat} (hf : ∀ k, k < N 0 2 → f k ≤ 6) : zsum f (N 0 2) ≤ 72 := by
  have h1 := zsum_b (f := f) (c := 6) (n := N 0 2) hf
  have := h.b
  omega
theorem zplan_b64 {N : zN} (h : zq N) : zplan N < 64 := by
  have hf := h.f
  have p6 : 2 ^ N 0 0 ≤ 64 := Nat.le_trans (Nat.pow_le_pow_right (by decide) hf) (by decide)
  have p1 := Nat.two_pow_pos (N 0 0)
  have := zbt_le N (2 ^ N 0 0)
  unfold zplan; split <;> omega
theorem zfk_0 {N : zN} (h0 : N 0 2 = 0) : 64 * zls 6 N (zplan N) + zplan N = 0 := by
  have e : zplan N = 0 := by unfold zplan; rw [if_pos h0]
  rw [e]
  unfold zls zcs
  rw [h0, zsum_c (g := fun _ => 0) (fun f _ => by simp), zsum_z]
  rfl
theorem zz_div64 {a b : Nat} (ha : a < 2 ^ 20) (hb : b < 64) : nI (64 * a + b) / nI 64 = nI a := by
  rw [pk_div (by omega) (by decide) (by decide)]
  congr 1; omega
theorem zz_rem64 {a b : Nat} (ha : a < 2 ^ 20) (hb : b < 64) : nI (64 * a + b) - nI (64 * a + b) / nI 64 * nI 64 = nI b := by
  rw [zz_div64 ha hb, pk_mul, pk_sub (by omega)]
  congr 1; omega
theorem zd_X0_forgetKeys : yX0_forgetKeys.cls ≠ "java/lang/invoke/MethodHandle" ∧ yX0_forgetKeys.cls ≠ "java/lang/invoke/VarHandle" ∧ (parseMethodDescriptor yX0_forgetKeys.desc).map (fun d => d.parameters.length) = some 0 := by decide +kernel
theorem zd_X0_keyFor : yX0_keyFor.cls ≠ "java/lang/invoke/MethodHandle" ∧ yX0_keyFor.cls ≠ "java/lang/invoke/VarHandle" ∧ (parseMethodDescriptor yX0_keyFor.desc).map (fun d => d.parameters.length) = some 1 := by decide +kernel
theorem zd_X0_offerKey : yX0_offerKey.cls ≠ "java/lang/invoke/MethodHandle" ∧ yX0_offerKey.cls ≠ "java/lang/invoke/VarHandle" ∧ (parseMethodDescriptor yX0_offerKey.desc).map (fun d => d.parameters.length) = some 2 := by decide +kernel
theorem zd_X2_addFloorToSetsOf : yX2_addFloorToSetsOf.cls ≠ "java/lang/invoke/MethodHandle" ∧ yX2_addFloorToSetsOf.cls ≠ "java/lang/invoke/VarHandle" ∧ (parseMethodDescriptor yX2_addFloorToSetsOf.desc).map (fun d => d.parameters.length) = some 3 := by decide +kernel
theorem zd_X2_findKeysUpTo : yX2_findKeysUpTo.cls ≠ "java/lang/invoke/MethodHandle" ∧ yX2_findKeysUpTo.cls ≠ "java/lang/invoke/VarHandle" ∧ (parseMethodDescriptor yX2_findKeysUpTo.desc).map (fun d => d.parameters.length) = some 2 := by decide +kernel
theorem zd_X2_findPlanKey : yX2_findPlanKey.cls ≠ "java/lang/invoke/MethodHandle" ∧ yX2_findPlanKey.cls ≠ "java/lang/invoke/VarHandle" ∧ (parseMethodDescriptor yX2_findPlanKey.desc).map (fun d => d.parameters.length) = some 0 := by decide +kernel
theorem zd_X2_lossBetween : yX2_lossBetween.cls ≠ "java/lang/invoke/MethodHandle" ∧ yX2_lossBetween.cls ≠ "java/lang/invoke/VarHandle" ∧ (parseMethodDescriptor yX2_lossBetween.desc).map (fun d => d.parameters.length) = some 2 := by decide +kernel
set_option maxHeartbeats 4000000 in
set_option maxRecDepth 100000 in
theorem c_X2_lossBetween (l : Launch) {K : zz_G} {A : Nat → Prop} {ad : Nat → Nat → Nat} {E : Nat → Nat → Int32} {cap : Nat → Nat} {N : Nat → Nat → Nat} {G : Nat → Nat → Int32} {L : Nat → Int64} (hI : zq N) (hk : zk K ad cap N) (lo hi : Int32) : zz_C l yX2_lossBetween cX2_lossBetween 6 (Option.some FieldType.int) ({ frames := 3, cells := 0, slots := 0, locals := 64 } : Room) K A [.ref (ad 0 0), .int lo, .int hi] (fun H => zz_W K A ad (zx_c K ad E cap N G L) H) (fun v9 _ _ => v9 = some (.int (nI 3 * zlbs N lo hi (N 0 2)))) zz_nx zz_no := by
  refine zz_body (by decide +kernel) (Nat.le_of_ble_eq_true rfl) ?_
  intro p e s m below meth c ls hx hb hr hml hts hown hlocks hmn htab hE hA hP hl
  have hN := hE.N
  have hK := hE.K
  have hown : s.vm.findClass RX2 = some m.cls := hown
  have hl : lv_has ls 6 [(0, .ref (ad 0 0)), (1, .int lo), (2, .int hi)] := hl
  have hZ : zz_Z K A s ad (zx_c K ad E cap N G L) s.heap := ⟨hE, hA, hP⟩
  have hS : va_S zz_no s.heap s.heap [] := va_S.rf
  obtain ⟨H, hH⟩ : ∃ z, z = s.heap := ⟨_, rfl⟩
  have hS0 : va_S zz_no s.heap H [] := by rw [hH]; exact hS
  rw [← hH] at hZ
  have hE0 := hE
  clear hS
  have hS := hS0
  have hB := hI.B
  have hbk := hI.bk
  have h00 := hI.f
  have h01 := hI.p
  have h02 := hI.b
  have hk0 := hk 0 (by decide)
  have hk1 := hk 1 (by decide)
  have hk2 := hk 2 (by decide)
  show W p l e _ s m _ below meth c s.heap [] 0 0 _ (F0 m 0 ls [])
  rw [← hH]
  refine zz_con 0 hx hb dX2_lossBetween_0 (by decide) ?_
  refine lv_istore_n (lv' := [(3, .int (nI 0)), (0, .ref (ad 0 0)), (1, .int lo), (2, .int hi)]) hx hb dX2_lossBetween_1 rfl hl (Nat.le_of_ble_eq_true rfl) rfl (fun ls hl => ?_)
  refine zz_con 0 hx hb dX2_lossBetween_2 (by decide) ?_
  refine lv_istore (lv' := [(4, .int (nI 0)), (3, .int (nI 0)), (0, .ref (ad 0 0)), (1, .int lo), (2, .int hi)]) hx hb dX2_lossBetween_3 hl (Nat.le_of_ble_eq_true rfl) rfl (fun ls hl => ?_)
  have hL_2 : ∀ (k i : Nat), i ≤ N 0 2 → N 0 2 < i + k → ∀ (H : Heap) (locs : List Loc) (ls : Array Slot), zz_Z K A s ad (zx_c K ad E cap N G L) H → va_S zz_no s.heap H locs → lv_has ls 6 [(4, .int (nI i)), (3, .int (zlbs N lo hi i)), (0, .ref (ad 0 0)), (1, .int lo), (2, .int hi)] → W p l e ({ frames := 3, cells := 0, slots := 0, locals := 64 } : Room) s m ([.ref (ad 0 0), .int lo, .int hi] : List Value).toArray below meth c H locs 0 0 (vx_MQ below (zz_Qc (fun v9 _ _ => v9 = some (.int (nI 3 * zlbs N lo hi (N 0 2)))) zz_no) (zz_XC zz_nx) ([.ref (ad 0 0), .int lo, .int hi] : List Value).toArray s ({ frames := 3, cells := 0, slots := 0, locals := 64 } : Room).cells ({ frames := 3, cells := 0, slots := 0, locals := 64 } : Room).slots zz_no) (F0 m 5 ls []) := by
    intro k
    induction k with
    | zero => intro i hi hik; omega
    | succ k ih_i =>
      intro i hii hiki H locs ls hZ hS hl
      refine lv_iload hx hb dX2_lossBetween_5 (lv_at hl 0 rfl) ?_
      refine lv_aload_n hx hb dX2_lossBetween_7 rfl (lv_at hl 2 rfl) ?_
      refine zz_get (ci := 5) (C := RX2) (T := TX2) (N := 8) (v := .ref (ad 1 2)) hx hb hts hown hK (zx_ob hZ.W).1 rfl zf_X2 2 (by decide) zw_61 (fun _ h9 => h9) rfl dX2_lossBetween_8 ?_
      refine zz_after (pc := 11) rfl (zz_runV (ci := 2) (q0 := (RJx4a65c, TJx4a65c, 3)) (b := ad 1 2) (As := []) (rest := [.int (nI i)]) hx hb hml hown hts (c_Jx4a65c_size_8abf5 l (K := K) (A := A) (ad := ad) (E := E) (cap := cap) (N := N) (G := G) (L := L) hk (by decide)) zw_88 zw_89 zw_90 zw_4 zw_91 zd_Jx4a65c_size_8abf5 ⟨Nat.le_of_ble_eq_true rfl, Nat.le_of_ble_eq_true rfl⟩ hZ.E hZ.A (zx_li hZ.W (t := 2) (by decide)).1 rfl rfl hZ.W hl.1 (Nat.le_of_ble_eq_true rfl) dX2_lossBetween_11 ⟨Nat.le_of_ble_eq_true rfl, Nat.le_of_ble_eq_true rfl⟩) hS (fun _ h => h.elim) (fun v_5 H locs hq_3 hF_4 hS => ?_)
      refine W.widen (k := 0) (n := 0) (Nat.le_of_ble_eq_true rfl) (Nat.le_of_ble_eq_true rfl) ?_
      obtain rfl := hq_3
      have hZ := hZ.ro hF_4
      refine W.eq (g2 := F0 m 14 ls [.int (nI (N 0 2)), .int (nI i)]) rfl ?_
      refine zz_ic_ge (tgt := 83) (by first | exact hB _ _ | exact hUa _ | exact hUb _ | exact hUc _ | exact hUd _ | omega) (by first | exact hB _ _ | exact hUa _ | exact hUb _ | exact hUc _ | exact hUd _ | omega) hx hb dX2_lossBetween_14 (by decide) (fun c_6 => ?_) (fun c_6 => ?_)
      · skip
        obtain rfl : i = N 0 2 := by omega
        refine zz_con 3 hx hb dX2_lossBetween_83 (by decide) ?_
        refine lv_iload_n hx hb dX2_lossBetween_84 rfl (lv_at hl 1 rfl) ?_
        refine lv_imul hx hb dX2_lossBetween_85 ?_
        refine zz_iret hx hb hr hlocks hS (Nat.le_of_ble_eq_true rfl) (Nat.le_of_ble_eq_true rfl) dX2_lossBetween_86 ?_
        first | rfl | (simp [c_6]; done) | (simp_all; done) | (split <;> first | rfl | omega | (simp_all; done); done)
      · skip
        refine lv_aload_n hx hb dX2_lossBetween_17 rfl (lv_at hl 2 rfl) ?_
        refine zz_get (ci := 5) (C := RX2) (T := TX2) (N := 8) (v := .ref (ad 1 2)) hx hb hts hown hK (zx_ob hZ.W).1 rfl zf_X2 2 (by decide) zw_61 (fun _ h9 => h9) rfl dX2_lossBetween_18 ?_
        refine lv_iload hx hb dX2_lossBetween_21 (lv_at hl 0 rfl) ?_
        have hj_7 : i < N 0 2 := by omega
        have hp_8 : N 9 i < N 0 1 := hbk _ hj_7
        refine zz_after (pc := 23) rfl (zz_runV (ci := 2) (q0 := (RJx4a65c, TJx4a65c, 3)) (b := ad 1 2) (As := [.int (nI i)]) (rest := []) hx hb hml hown hts (c_Jx4a65c_get_915e3 l (K := K) (A := A) (ad := ad) (E := E) (cap := cap) (N := N) (G := G) (L := L) hk (by decide) (j := i) (r := (ad 5 (N 9 i))) hj_7 (zx_g2 hj_7)) zw_101 zw_102 zw_103 zw_4 zw_104 zd_Jx4a65c_get_915e3 ⟨Nat.le_of_ble_eq_true rfl, Nat.le_of_ble_eq_true rfl⟩ hZ.E hZ.A (zx_li hZ.W (t := 2) (by decide)).1 rfl rfl hZ.W hl.1 (Nat.le_of_ble_eq_true rfl) dX2_lossBetween_23 ⟨Nat.le_of_ble_eq_true rfl, Nat.le_of_ble_eq_true rfl⟩) hS (fun _ h => h.elim) (fun v_11 H locs hq_9 hF_10 hS => ?_)
        refine W.widen (k := 0) (n := 0) (Nat.le_of_ble_eq_true rfl) (Nat.le_of_ble_eq_true rfl) ?_
        obtain rfl := hq_9
        have hZ := hZ.ro hF_10
        refine W.eq (g2 := F0 m 26 ls [.ref (ad 5 (N 9 i))]) rfl ?_
        refine va_castS hx hb hown (hts _ zw_129) (hK.1 4 _ rfl).2 (zz_rc hK (zx_pe hZ.W (q := N 9 i) hp_8).1 rfl) dX2_lossBetween_26 ?_
        rcases (show N 11 (N 9 i) = 0 ∨ ∃ z, N 11 (N 9 i) = z + 1 by cases (N 11 (N 9 i)) with | zero => exact Or.inl rfl | succ z => exact Or.inr ⟨z, rfl⟩) with h_12 | ⟨j_13, h_12⟩
        · skip
          refine zz_getN (ci := 4) (C := RX1) (T := TX1) (N := 7) (v := .null) hx hb hts hN hown hK (zx_pe hZ.W (q := N 9 i) hp_8).1 rfl zf_X1 3 (by decide) zn_491 (fun _ h9 => h9) (congrArg (fun x => some (zz_rf (ad 3) x)) h_12) dX2_lossBetween_29 ?_
          exact absurd h_12 (by have := hI.bw i (by omega); omega)
        · skip
          have hj_14 : j_13 < N 0 0 := by have := hI.wt (N 9 i) hp_8; omega
          refine zz_getN (ci := 4) (C := RX1) (T := TX1) (N := 7) (v := .ref (ad 3 j_13)) hx hb hts hN hown hK (zx_pe hZ.W (q := N 9 i) hp_8).1 rfl zf_X1 3 (by decide) zn_491 (fun _ h9 => h9) (congrArg (fun x => some (zz_rf (ad 3) x)) h_12) dX2_lossBetween_29 ?_
          have e10 : j_13 = N 10 i := by (have := hI.bw i (by omega); omega)
          subst e10
          refine lv_astore (lv' := [(5, .ref (ad 3 (N 10 i))), (4, .int (nI i)), (3, .int (zlbs N lo hi i)), (0, .ref (ad 0 0)), (1, .int lo), (2, .int hi)]) hx hb dX2_lossBetween_32 hl (Nat.le_of_ble_eq_true rfl) rfl (fun ls hl => ?_)
          refine lv_aload hx hb dX2_lossBetween_34 (lv_at hl 0 rfl) ?_
          refine lv_ifnull hx hb dX2_lossBetween_36 ?_
          refine lv_aload hx hb dX2_lossBetween_39 (lv_at hl 0 rfl) ?_
          refine zz_getN (ci := 3) (C := RX0) (T := TX0) (N := 7) (v := .int (nI (N 10 i))) hx hb hts hN hown hK (zx_fl hZ.W (f := N 10 i) hj_14).1 rfl zf_X0 0 (by decide) zn_334 (fun _ h9 => h9) rfl dX2_lossBetween_41 ?_
          refine lv_iload_n hx hb dX2_lossBetween_44 rfl (lv_at hl 4 rfl) ?_
          refine lv_icmp_le (tgt := 77) hx hb dX2_lossBetween_45 (by decide) (fun c_15 => ?_) (fun c_15 => ?_)
          · skip
            refine zz_inc (k := 1) (lv' := [(4, .int (nI (i + 1))), (5, .ref (ad 3 (N 10 i))), (3, .int (zlbs N lo hi i)), (0, .ref (ad 0 0)), (1, .int lo), (2, .int hi)]) hx hb dX2_lossBetween_77 hl rfl (Nat.le_of_ble_eq_true rfl) rfl (fun ls hl => ?_)
            refine lv_goto (tgt := 5) hx hb dX2_lossBetween_80 (by decide) ?_
            refine ih_i (i + 1) (by omega) (by omega) _ _ _ ?_ hS ?_
            · exact hZ
            · skip
              rw [show (.int (zlbs N lo hi (i + 1)) : Value) = .int (zlbs N lo hi i) from congrArg Value.int (by first | rfl | ((rw [zlbs, if_pos ⟨Int32.not_le.mp (by assumption), Int32.not_le.mp (by assumption)⟩]); done) | ((rw [zlbs, if_neg (fun h => absurd h.1 (Int32.not_lt.mpr (by assumption)))]); done) | ((rw [zlbs, if_neg (fun h => absurd h.2 (Int32.not_lt.mpr (by assumption)))]); done))]
              exact lv_sub hl [0, 2, 3, 4, 5] rfl
          · skip
            refine lv_aload hx hb dX2_lossBetween_48 (lv_at hl 0 rfl) ?_
            refine zz_getN (ci := 3) (C := RX0) (T := TX0) (N := 7) (v := .int (nI (N 10 i))) hx hb hts hN hown hK (zx_fl hZ.W (f := N 10 i) hj_14).1 rfl zf_X0 0 (by decide) zn_334 (fun _ h9 => h9) rfl dX2_lossBetween_50 ?_
            refine lv_iload_n hx hb dX2_lossBetween_53 rfl (lv_at hl 5 rfl) ?_
            refine lv_icmp_ge (tgt := 77) hx hb dX2_lossBetween_54 (by decide) (fun c_16 => ?_) (fun c_16 => ?_)
            · skip
              refine zz_inc (k := 1) (lv' := [(4, .int (nI (i + 1))), (5, .ref (ad 3 (N 10 i))), (3, .int (zlbs N lo hi i)), (0, .ref (ad 0 0)), (1, .int lo), (2, .int hi)]) hx hb dX2_lossBetween_77 hl rfl (Nat.le_of_ble_eq_true rfl) rfl (fun ls hl => ?_)
              refine lv_goto (tgt := 5) hx hb dX2_lossBetween_80 (by decide) ?_
              refine ih_i (i + 1) (by omega) (by omega) _ _ _ ?_ hS ?_
              · exact hZ
              · skip
                rw [show (.int (zlbs N lo hi (i + 1)) : Value) = .int (zlbs N lo hi i) from congrArg Value.int (by first | rfl | ((rw [zlbs, if_pos ⟨Int32.not_le.mp (by assumption), Int32.not_le.mp (by assumption)⟩]); done) | ((rw [zlbs, if_neg (fun h => absurd h.1 (Int32.not_lt.mpr (by assumption)))]); done) | ((rw [zlbs, if_neg (fun h => absurd h.2 (Int32.not_lt.mpr (by assumption)))]); done))]
                exact lv_sub hl [0, 2, 3, 4, 5] rfl
            · skip
              refine lv_iload_n hx hb dX2_lossBetween_57 rfl (lv_at hl 2 rfl) ?_
              refine lv_aload hx hb dX2_lossBetween_58 (lv_at hl 0 rfl) ?_
              refine zz_getN (ci := 3) (C := RX0) (T := TX0) (N := 7) (v := .int (nI (N 10 i))) hx hb hts hN hown hK (zx_fl hZ.W (f := N 10 i) hj_14).1 rfl zf_X0 0 (by decide) zn_334 (fun _ h9 => h9) rfl dX2_lossBetween_60 ?_
              refine lv_iload_n hx hb dX2_lossBetween_63 rfl (lv_at hl 4 rfl) ?_
              refine lv_isub hx hb dX2_lossBetween_64 ?_
              refine lv_iload_n hx hb dX2_lossBetween_65 rfl (lv_at hl 5 rfl) ?_
              refine lv_aload hx hb dX2_lossBetween_66 (lv_at hl 0 rfl) ?_
              refine zz_getN (ci := 3) (C := RX0) (T := TX0) (N := 7) (v := .int (nI (N 10 i))) hx hb hts hN hown hK (zx_fl hZ.W (f := N 10 i) hj_14).1 rfl zf_X0 0 (by decide) zn_334 (fun _ h9 => h9) rfl dX2_lossBetween_68 ?_
              refine lv_isub hx hb dX2_lossBetween_71 ?_
              refine va_mmin hx hb (by rw [hml]; exact hl.1.symm) hown (hts _ zw_130) (hts _ zw_131) (hts _ zw_13) (hts _ zw_132) (Nat.le_of_ble_eq_true rfl) (Nat.le_of_ble_eq_true rfl) (Nat.le_of_ble_eq_true rfl) (Nat.le_of_ble_eq_true rfl) dX2_lossBetween_72 ?_
              refine lv_iadd hx hb dX2_lossBetween_75 ?_
              refine lv_istore_n (lv' := [(3, .int ((zlbs N lo hi i) + (if hi - (nI (N 10 i)) < (nI (N 10 i)) - lo then hi - (nI (N 10 i)) else (nI (N 10 i)) - lo))), (5, .ref (ad 3 (N 10 i))), (4, .int (nI i)), (0, .ref (ad 0 0)), (1, .int lo), (2, .int hi)]) hx hb dX2_lossBetween_76 rfl hl (Nat.le_of_ble_eq_true rfl) rfl (fun ls hl => ?_)
              refine zz_inc (k := 2) (lv' := [(4, .int (nI (i + 1))), (3, .int ((zlbs N lo hi i) + (if hi - (nI (N 10 i)) < (nI (N 10 i)) - lo then hi - (nI (N 10 i)) else (nI (N 10 i)) - lo))), (5, .ref (ad 3 (N 10 i))), (0, .ref (ad 0 0)), (1, .int lo), (2, .int hi)]) hx hb dX2_lossBetween_77 hl rfl (Nat.le_of_ble_eq_true rfl) rfl (fun ls hl => ?_)
              refine lv_goto (tgt := 5) hx hb dX2_lossBetween_80 (by decide) ?_
              refine ih_i (i + 1) (by omega) (by omega) _ _ _ ?_ hS ?_
              · exact hZ
              · skip
                rw [show (.int (zlbs N lo hi (i + 1)) : Value) = .int ((zlbs N lo hi i) + (if hi - (nI (N 10 i)) < (nI (N 10 i)) - lo then hi - (nI (N 10 i)) else (nI (N 10 i)) - lo)) from congrArg Value.int (by first | rfl | ((rw [zlbs, if_pos ⟨Int32.not_le.mp (by assumption), Int32.not_le.mp (by assumption)⟩]); done) | ((rw [zlbs, if_neg (fun h => absurd h.1 (Int32.not_lt.mpr (by assumption)))]); done) | ((rw [zlbs, if_neg (fun h => absurd h.2 (Int32.not_lt.mpr (by assumption)))]); done))]
                exact lv_sub hl [0, 1, 3, 4, 5] rfl
  refine hL_2 (N 0 2 + 1) 0 (by first | omega | exact Nat.zero_le _) (by first | omega | (rw [Nat.zero_add]; exact Nat.lt_succ_self _)) _ _ _ hZ hS ?_
  exact lv_sub hl [0, 1, 2, 3, 4] rfl

set_option maxHeartbeats 4000000 in
set_option maxRecDepth 100000 in
theorem c_X2_addFloorToSetsOf (l : Launch) {K : zz_G} {A : Nat → Prop} {ad : Nat → Nat → Nat} {E : Nat → Nat → Int32} {cap : Nat → Nat} {N : Nat → Nat → Nat} {G : Nat → Nat → Int32} {L : Nat → Int64} (hI : zq N) (hk : zk K ad cap N) {i0 h : Nat} (hi0 : i0 < N 0 0) (hh : h < N 0 0) : zz_C l yX2_addFloorToSetsOf cX2_addFloorToSetsOf 8 (Option.none : Option Jvm.ClassFile.FieldType) ({ frames := 4, cells := 0, slots := 0, locals := 89 } : Room) K A [.ref (ad 0 0), .ref (ad 3 i0), .ref (ad 3 h), .int (nI (N 0 2))] (fun H => zz_W K A ad (zx_c K ad E cap N G L) H) (fun v9 _ H9 => v9 = none ∧ zz_W K A ad (zx_c K ad (zas N i0 h E (N 0 2 + 1)) cap N G L) H9) zz_nx A := by
  refine zz_body (by decide +kernel) (Nat.le_of_ble_eq_true rfl) ?_
  intro p e s m below meth c ls hx hb hr hml hts hown hlocks hmn htab hE hA hP hl
  have hN := hE.N
  have hK := hE.K
  have hown : s.vm.findClass RX2 = some m.cls := hown
  have hl : lv_has ls 8 [(0, .ref (ad 0 0)), (1, .ref (ad 3 i0)), (2, .ref (ad 3 h)), (3, .int (nI (N 0 2)))] := hl
  have hZ : zz_Z K A s ad (zx_c K ad E cap N G L) s.heap := ⟨hE, hA, hP⟩
  have hS : va_S zz_no s.heap s.heap [] := va_S.rf
  obtain ⟨H, hH⟩ : ∃ z, z = s.heap := ⟨_, rfl⟩
  have hS0 : va_S zz_no s.heap H [] := by rw [hH]; exact hS
  rw [← hH] at hZ
  have hE0 := hE
  clear hS
  have hS := hS0
  have hB := hI.B
  have hbk := hI.bk
  have h00 := hI.f
  have h01 := hI.p
  have h02 := hI.b
  have hk0 := hk 0 (by decide)
  have hk1 := hk 1 (by decide)
  have hk2 := hk 2 (by decide)
  have hw6 : ∀ k, k < N 0 2 → N 10 k < 6 := fun k hk9 => by have := hI.bf k hk9; omega
  have h2h : 2 ^ h ≤ 64 := Nat.le_trans (Nat.pow_le_pow_right (by decide) (show h ≤ 6 by omega)) (by decide)
  have hzb : zsum (zb2 N i0 h) (N 0 2) ≤ 72 := zsum_b6 hI (fun k hk9 => by (have := hw6 k hk9; unfold zb2; split <;> omega))
  have hfh := hI.fl h hh
  show W p l e _ s m _ below meth c s.heap [] 0 0 _ (F0 m 0 ls [])
  rw [← hH]
  refine lv_aload_n hx hb dX2_addFloorToSetsOf_0 rfl (lv_at hl 2 rfl) ?_
  refine zz_getN (ci := 3) (C := RX0) (T := TX0) (N := 7) (v := .int (nI (N 2 h))) hx hb hts hN hown hK (zx_fl hZ.W (f := h) hh).1 rfl zf_X0 2 (by decide) zn_338 (fun _ h9 => h9) rfl dX2_addFloorToSetsOf_1 ?_
  refine lv_aload_n hx hb dX2_addFloorToSetsOf_4 rfl (lv_at hl 0 rfl) ?_
  refine lv_aload_n hx hb dX2_addFloorToSetsOf_5 rfl (lv_at hl 1 rfl) ?_
  refine zz_getN (ci := 3) (C := RX0) (T := TX0) (N := 7) (v := .int (nI i0)) hx hb hts hN hown hK (zx_fl hZ.W (f := i0) hi0).1 rfl zf_X0 0 (by decide) zn_334 (fun _ h9 => h9) rfl dX2_addFloorToSetsOf_6 ?_
  refine lv_aload_n hx hb dX2_addFloorToSetsOf_9 rfl (lv_at hl 2 rfl) ?_
  refine zz_getN (ci := 3) (C := RX0) (T := TX0) (N := 7) (v := .int (nI h)) hx hb hts hN hown hK (zx_fl hZ.W (f := h) hh).1 rfl zf_X0 0 (by decide) zn_334 (fun _ h9 => h9) rfl dX2_addFloorToSetsOf_10 ?_
  refine zz_after (pc := 13) rfl (zz_runV (ci := 5) (q0 := (RX2, TX2, 8)) (b := ad 0 0) (As := [.int (nI i0), .int (nI h)]) (rest := [.int (nI (N 2 h))]) hx hb hml hown hts (c_X2_lossBetween l (K := K) (A := A) (ad := ad) (E := E) (cap := cap) (N := N) (G := G) (L := L) hI hk (nI i0) (nI h)) zw_125 zw_127 zs_2 zw_1 zw_128 zd_X2_lossBetween ⟨Nat.le_of_ble_eq_true rfl, Nat.le_of_ble_eq_true rfl⟩ hZ.E hZ.A (zx_ob hZ.W).1 rfl rfl hZ.W hl.1 (Nat.le_of_ble_eq_true rfl) dX2_addFloorToSetsOf_13 ⟨Nat.le_of_ble_eq_true rfl, Nat.le_of_ble_eq_true rfl⟩) hS (fun _ h => h.elim) (fun v_3 H locs hq_1 hF_2 hS => ?_)
  refine W.widen (k := 0) (n := 0) (Nat.le_of_ble_eq_true rfl) (Nat.le_of_ble_eq_true rfl) ?_
  obtain rfl := hq_1
  have hZ := hZ.ro hF_2
  refine W.eq (g2 := F0 m 16 ls [.int (nI 3 * zlbs N (nI i0) (nI h) (N 0 2)), .int (nI (N 2 h))]) rfl ?_
  refine zz_cv (y := nI (3 * zsum (zb2 N i0 h) (N 0 2))) (zz_3 (zlbs_2 (by omega) (by omega) _ hw6)) ?_
  refine zz_add hx hb dX2_addFloorToSetsOf_16 ?_
  refine lv_istore (lv' := [(4, .int (nI ((N 2 h) + (3 * zsum (zb2 N i0 h) (N 0 2))))), (0, .ref (ad 0 0)), (1, .ref (ad 3 i0)), (2, .ref (ad 3 h)), (3, .int (nI (N 0 2)))]) hx hb dX2_addFloorToSetsOf_17 hl (Nat.le_of_ble_eq_true rfl) rfl (fun ls hl => ?_)
  refine zz_con 0 hx hb dX2_addFloorToSetsOf_19 (by decide) ?_
  refine lv_istore (lv' := [(5, .int (nI 0)), (4, .int (nI ((N 2 h) + (3 * zsum (zb2 N i0 h) (N 0 2))))), (0, .ref (ad 0 0)), (1, .ref (ad 3 i0)), (2, .ref (ad 3 h)), (3, .int (nI (N 0 2)))]) hx hb dX2_addFloorToSetsOf_20 hl (Nat.le_of_ble_eq_true rfl) rfl (fun ls hl => ?_)
  have hS : va_S A s.heap H _ := zz_Smono hS (fun _ h => h.elim)
  have hL_5 : ∀ (k i : Nat), i ≤ (N 0 2 + 1) → (N 0 2 + 1) < i + k → ∀ (H : Heap) (locs : List Loc) (ls : Array Slot), zz_Z K A s ad (zx_c K ad (zas N i0 h E i) cap N G L) H → va_S A s.heap H locs → lv_has ls 8 [(5, .int (nI i)), (4, .int (nI ((N 2 h) + (3 * zsum (zb2 N i0 h) (N 0 2))))), (0, .ref (ad 0 0)), (1, .ref (ad 3 i0)), (2, .ref (ad 3 h)), (3, .int (nI (N 0 2)))] → W p l e ({ frames := 4, cells := 0, slots := 0, locals := 89 } : Room) s m ([.ref (ad 0 0), .ref (ad 3 i0), .ref (ad 3 h), .int (nI (N 0 2))] : List Value).toArray below meth c H locs 0 0 (vx_MQ below (zz_Qc (fun v9 _ H9 => v9 = none ∧ zz_W K A ad (zx_c K ad (zas N i0 h E (N 0 2 + 1)) cap N G L) H9) A) (zz_XC zz_nx) ([.ref (ad 0 0), .ref (ad 3 i0), .ref (ad 3 h), .int (nI (N 0 2))] : List Value).toArray s ({ frames := 4, cells := 0, slots := 0, locals := 89 } : Room).cells ({ frames := 4, cells := 0, slots := 0, locals := 89 } : Room).slots A) (F0 m 22 ls []) := by
    intro k
    induction k with
    | zero => intro i hi hik; omega
    | succ k ih_i =>
      intro i hii hiki H locs ls hZ hS hl
      refine lv_iload hx hb dX2_addFloorToSetsOf_22 (lv_at hl 0 rfl) ?_
      refine lv_iload_n hx hb dX2_addFloorToSetsOf_24 rfl (lv_at hl 5 rfl) ?_
      refine zz_ic_gt (tgt := 81) (by first | exact hB _ _ | exact hUa _ | exact hUb _ | exact hUc _ | exact hUd _ | omega) (by first | exact hB _ _ | exact hUa _ | exact hUb _ | exact hUc _ | exact hUd _ | omega) hx hb dX2_addFloorToSetsOf_25 (by decide) (fun c_6 => ?_) (fun c_6 => ?_)
      · skip
        obtain rfl : i = (N 0 2 + 1) := by omega
        refine zz_vret hx hb hr hlocks hS (Nat.le_of_ble_eq_true rfl) (Nat.le_of_ble_eq_true rfl) dX2_addFloorToSetsOf_81 ?_
        refine ⟨?_, ?_⟩
        · skip
          first | rfl | (simp [c_6]; done) | (simp_all; done) | (split <;> first | rfl | omega | (simp_all; done); done)
        · first | exact hZ.W | (refine zx_co ?_ ?_ ?_ ?_ hZ.W <;> first | rfl | (simp [c_6]; done) | (simp_all; done) | (split <;> first | rfl | omega | (simp_all; done); done))
      · skip
        refine lv_aload_n hx hb dX2_addFloorToSetsOf_28 rfl (lv_at hl 3 rfl) ?_
        refine lv_iload hx hb dX2_addFloorToSetsOf_29 (lv_at hl 0 rfl) ?_
        refine zz_after (pc := 31) rfl (zz_runV (ci := 3) (q0 := (RX0, TX0, 7)) (b := ad 3 i0) (As := [.int (nI i)]) (rest := []) hx hb hml hown hts (c_X0_keyFor l (K := K) (A := A) (ad := ad) (E := (zas N i0 h E i)) (cap := cap) (N := N) (G := G) (L := L) hI hi0 (by first | exact hB _ _ | exact hUa _ | exact hUb _ | exact hUc _ | exact hUd _ | omega)) zw_145 zw_146 zw_147 zw_11 zw_148 zd_X0_keyFor ⟨Nat.le_of_ble_eq_true rfl, Nat.le_of_ble_eq_true rfl⟩ hZ.E hZ.A (zx_fl hZ.W (f := i0) hi0).1 rfl rfl hZ.W hl.1 (Nat.le_of_ble_eq_true rfl) dX2_addFloorToSetsOf_31 ⟨Nat.le_of_ble_eq_true rfl, Nat.le_of_ble_eq_true rfl⟩) hS (fun _ h => h.elim) (fun v_9 H locs hq_7 hF_8 hS => ?_)
        refine W.widen (k := 0) (n := 0) (Nat.le_of_ble_eq_true rfl) (Nat.le_of_ble_eq_true rfl) ?_
        obtain rfl := hq_7
        have hZ := hZ.ro hF_8
        refine W.eq (g2 := F0 m 34 ls [.int (if i < 13 then (zas N i0 h E i) (1 + i0) i else 2147483647)]) rfl ?_
        refine zz_cv (y := (zas N i0 h E i) (1 + i0) i) (if_pos (by omega)) ?_
        refine lv_istore (lv' := [(6, .int ((zas N i0 h E i) (1 + i0) i)), (5, .int (nI i)), (4, .int (nI ((N 2 h) + (3 * zsum (zb2 N i0 h) (N 0 2))))), (0, .ref (ad 0 0)), (1, .ref (ad 3 i0)), (2, .ref (ad 3 h)), (3, .int (nI (N 0 2)))]) hx hb dX2_addFloorToSetsOf_34 hl (Nat.le_of_ble_eq_true rfl) rfl (fun ls hl => ?_)
        refine lv_iload hx hb dX2_addFloorToSetsOf_36 (lv_at hl 0 rfl) ?_
        refine lv_ldc (v := 2147483647) hx hb hown (hts _ zw_100) dX2_addFloorToSetsOf_38 ?_
        refine lv_icmp_eq (tgt := 75) hx hb dX2_addFloorToSetsOf_40 (by decide) (fun c_10 => ?_) (fun c_10 => ?_)
        · skip
          have hz1 : zas N i0 h E (i + 1) = zas N i0 h E i := by (rw [zas, za1, if_pos c_10])
          refine zz_inc (k := 1) (lv' := [(5, .int (nI (i + 1))), (6, .int ((zas N i0 h E i) (1 + i0) i)), (4, .int (nI ((N 2 h) + (3 * zsum (zb2 N i0 h) (N 0 2))))), (0, .ref (ad 0 0)), (1, .ref (ad 3 i0)), (2, .ref (ad 3 h)), (3, .int (nI (N 0 2)))]) hx hb dX2_addFloorToSetsOf_75 hl rfl (Nat.le_of_ble_eq_true rfl) rfl (fun ls hl => ?_)
          refine lv_goto (tgt := 22) hx hb dX2_addFloorToSetsOf_78 (by decide) ?_
          refine ih_i (i + 1) (by omega) (by omega) _ _ _ ?_ hS ?_
          · rw [hz1]; exact hZ
          · skip
            exact lv_sub hl [0, 2, 3, 4, 5, 6] rfl
        · skip
          have hz1 : zas N i0 h E (i + 1) = zk_of (zas N i0 h E i) h (min (i + N 1 h) (N 0 2)) (zas N i0 h E i (1 + i0) i + nI (64 * (N 2 h + 3 * zsum (zb2 N i0 h) (N 0 2))) + nI (2 ^ h)) := by (rw [zas, za1, if_neg c_10])
          refine lv_iload hx hb dX2_addFloorToSetsOf_43 (lv_at hl 1 rfl) ?_
          refine lv_aload_n hx hb dX2_addFloorToSetsOf_45 rfl (lv_at hl 5 rfl) ?_
          refine zz_getN (ci := 3) (C := RX0) (T := TX0) (N := 7) (v := .int (nI (N 1 h))) hx hb hts hN hown hK (zx_fl hZ.W (f := h) hh).1 rfl zf_X0 1 (by decide) zn_336 (fun _ h9 => h9) rfl dX2_addFloorToSetsOf_46 ?_
          refine zz_add hx hb dX2_addFloorToSetsOf_49 ?_
          refine lv_iload_n hx hb dX2_addFloorToSetsOf_50 rfl (lv_at hl 6 rfl) ?_
          refine va_mmin hx hb (by rw [hml]; exact hl.1.symm) hown (hts _ zw_130) (hts _ zw_131) (hts _ zw_13) (hts _ zw_132) (Nat.le_of_ble_eq_true rfl) (Nat.le_of_ble_eq_true rfl) (Nat.le_of_ble_eq_true rfl) (Nat.le_of_ble_eq_true rfl) dX2_addFloorToSetsOf_51 ?_
          rw [zz_minN2 (by omega) (by omega)]
          refine lv_istore (lv' := [(7, .int (nI (min (i + N 1 h) (N 0 2)))), (6, .int ((zas N i0 h E i) (1 + i0) i)), (5, .int (nI i)), (4, .int (nI ((N 2 h) + (3 * zsum (zb2 N i0 h) (N 0 2))))), (0, .ref (ad 0 0)), (1, .ref (ad 3 i0)), (2, .ref (ad 3 h)), (3, .int (nI (N 0 2)))]) hx hb dX2_addFloorToSetsOf_54 hl (Nat.le_of_ble_eq_true rfl) rfl (fun ls hl => ?_)
          refine lv_aload_n hx hb dX2_addFloorToSetsOf_56 rfl (lv_at hl 6 rfl) ?_
          refine lv_iload hx hb dX2_addFloorToSetsOf_57 (lv_at hl 0 rfl) ?_
          refine lv_iload hx hb dX2_addFloorToSetsOf_59 (lv_at hl 1 rfl) ?_
          refine lv_bipush (v := nI 64) hx hb dX2_addFloorToSetsOf_61 (by decide) ?_
          refine lv_iload hx hb dX2_addFloorToSetsOf_63 (lv_at hl 3 rfl) ?_
          refine zz_mul hx hb dX2_addFloorToSetsOf_65 ?_
          refine lv_iadd hx hb dX2_addFloorToSetsOf_66 ?_
          refine lv_aload_n hx hb dX2_addFloorToSetsOf_67 rfl (lv_at hl 6 rfl) ?_
          refine zz_after (pc := 68) rfl (zz_runV (ci := 3) (q0 := (RX0, TX0, 7)) (b := ad 3 h) (As := []) (rest := [.int (((zas N i0 h E i) (1 + i0) i) + (nI (64 * ((N 2 h) + (3 * zsum (zb2 N i0 h) (N 0 2)))))), .int (nI (min (i + N 1 h) (N 0 2))), .ref (ad 3 h)]) hx hb hml hown hts (c_X0_bit l (K := K) (A := A) (ad := ad) (E := (zas N i0 h E i)) (cap := cap) (N := N) (G := G) (L := L) hI hh) zw_133 zw_134 zw_135 zw_11 zw_136 zd_X0_bit ⟨Nat.le_of_ble_eq_true rfl, Nat.le_of_ble_eq_true rfl⟩ hZ.E hZ.A (zx_fl hZ.W (f := h) hh).1 rfl rfl hZ.W hl.1 (Nat.le_of_ble_eq_true rfl) dX2_addFloorToSetsOf_68 ⟨Nat.le_of_ble_eq_true rfl, Nat.le_of_ble_eq_true rfl⟩) hS (fun _ h => h.elim) (fun v_13 H locs hq_11 hF_12 hS => ?_)
          refine W.widen (k := 0) (n := 0) (Nat.le_of_ble_eq_true rfl) (Nat.le_of_ble_eq_true rfl) ?_
          obtain rfl := hq_11
          have hZ := hZ.ro hF_12
          refine W.eq (g2 := F0 m 71 ls [.int (nI (2 ^ h)), .int (((zas N i0 h E i) (1 + i0) i) + (nI (64 * ((N 2 h) + (3 * zsum (zb2 N i0 h) (N 0 2)))))), .int (nI (min (i + N 1 h) (N 0 2))), .ref (ad 3 h)]) rfl ?_
          refine lv_iadd hx hb dX2_addFloorToSetsOf_71 ?_
          refine zz_after (pc := 72) rfl (zz_runV (ci := 3) (q0 := (RX0, TX0, 7)) (b := ad 3 h) (As := [.int (nI (min (i + N 1 h) (N 0 2))), .int ((((zas N i0 h E i) (1 + i0) i) + (nI (64 * ((N 2 h) + (3 * zsum (zb2 N i0 h) (N 0 2)))))) + (nI (2 ^ h)))]) (rest := []) hx hb hml hown hts (c_X0_offerKey l (K := K) (A := A) (ad := ad) (E := (zas N i0 h E i)) (cap := cap) (N := N) (G := G) (L := L) hI hh (by first | exact hB _ _ | exact hUa _ | exact hUb _ | exact hUc _ | exact hUd _ | omega)) zw_137 zw_138 zw_139 zw_11 zw_140 zd_X0_offerKey ⟨Nat.le_of_ble_eq_true rfl, Nat.le_of_ble_eq_true rfl⟩ hZ.E hZ.A (zx_fl hZ.W (f := h) hh).1 rfl rfl hZ.W hl.1 (Nat.le_of_ble_eq_true rfl) dX2_addFloorToSetsOf_72 ⟨Nat.le_of_ble_eq_true rfl, Nat.le_of_ble_eq_true rfl⟩) hS (fun _ h => h) (fun v_16 H locs hq_14 hF_15 hS => ?_)
          refine W.widen (k := 0) (n := 0) (Nat.le_of_ble_eq_true rfl) (Nat.le_of_ble_eq_true rfl) ?_
          obtain ⟨rfl, hW9⟩ := hq_14
          have hZ : zz_Z K A s ad (zx_c K ad (zk_of (zas N i0 h E i) h (min (i + N 1 h) (N 0 2)) ((((zas N i0 h E i) (1 + i0) i) + (nI (64 * ((N 2 h) + (3 * zsum (zb2 N i0 h) (N 0 2)))))) + (nI (2 ^ h)))) cap N G L) H := hZ.mut hF_15 hW9
          refine W.eq (g2 := F0 m 75 ls []) rfl ?_
          refine zz_inc (k := 2) (lv' := [(5, .int (nI (i + 1))), (7, .int (nI (min (i + N 1 h) (N 0 2)))), (6, .int ((zas N i0 h E i) (1 + i0) i)), (4, .int (nI ((N 2 h) + (3 * zsum (zb2 N i0 h) (N 0 2))))), (0, .ref (ad 0 0)), (1, .ref (ad 3 i0)), (2, .ref (ad 3 h)), (3, .int (nI (N 0 2)))]) hx hb dX2_addFloorToSetsOf_75 hl rfl (Nat.le_of_ble_eq_true rfl) rfl (fun ls hl => ?_)
          refine lv_goto (tgt := 22) hx hb dX2_addFloorToSetsOf_78 (by decide) ?_
          refine ih_i (i + 1) (by omega) (by omega) _ _ _ ?_ hS ?_
          · rw [hz1]; exact hZ
          · skip
            exact lv_sub hl [0, 3, 4, 5, 6, 7] rfl
  refine hL_5 ((N 0 2 + 1) + 1) 0 (by first | omega | exact Nat.zero_le _) (by first | omega | (rw [Nat.zero_add]; exact Nat.lt_succ_self _)) _ _ _ ?_ hS ?_
  · exact hZ
  exact lv_sub hl [0, 1, 2, 3, 4, 5] rfl

set_option maxHeartbeats 4000000 in
set_option maxRecDepth 100000 in
theorem c_X2_findKeysUpTo (l : Launch) {K : zz_G} {A : Nat → Prop} {ad : Nat → Nat → Nat} {E : Nat → Nat → Int32} {cap : Nat → Nat} {N : Nat → Nat → Nat} {G : Nat → Nat → Int32} {L : Nat → Int64} (hI : zq N) (hk : zk K ad cap N) {h : Nat} (hh : h < N 0 0) : zz_C l yX2_findKeysUpTo cX2_findKeysUpTo 5 (Option.none : Option Jvm.ClassFile.FieldType) ({ frames := 5, cells := 0, slots := 0, locals := 116 } : Room) K A [.ref (ad 0 0), .ref (ad 3 h), .int (nI (N 0 2))] (fun H => zz_W K A ad (zx_c K ad E cap N G L) H) (fun v9 _ H9 => v9 = none ∧ zz_W K A ad (zx_c K ad (zku N h E) cap N G L) H9) zz_nx A := by
  refine zz_body (by decide +kernel) (Nat.le_of_ble_eq_true rfl) ?_
  intro p e s m below meth c ls hx hb hr hml hts hown hlocks hmn htab hE hA hP hl
  have hN := hE.N
  have hK := hE.K
  have hown : s.vm.findClass RX2 = some m.cls := hown
  have hl : lv_has ls 5 [(0, .ref (ad 0 0)), (1, .ref (ad 3 h)), (2, .int (nI (N 0 2)))] := hl
  have hZ : zz_Z K A s ad (zx_c K ad E cap N G L) s.heap := ⟨hE, hA, hP⟩
  have hS : va_S zz_no s.heap s.heap [] := va_S.rf
  obtain ⟨H, hH⟩ : ∃ z, z = s.heap := ⟨_, rfl⟩
  have hS0 : va_S zz_no s.heap H [] := by rw [hH]; exact hS
  rw [← hH] at hZ
  have hE0 := hE
  clear hS
  have hS := hS0
  have hB := hI.B
  have hbk := hI.bk
  have h00 := hI.f
  have h01 := hI.p
  have h02 := hI.b
  have hk0 := hk 0 (by decide)
  have hk1 := hk 1 (by decide)
  have hk2 := hk 2 (by decide)
  have hw6 : ∀ k, k < N 0 2 → N 10 k < 6 := fun k hk9 => by have := hI.bf k hk9; omega
  have h2h : 2 ^ h ≤ 64 := Nat.le_trans (Nat.pow_le_pow_right (by decide) (show h ≤ 6 by omega)) (by decide)
  have hzb : zsum (zb1 N h) (N 0 2) ≤ 72 := zsum_b6 hI (fun k hk9 => by (have := hw6 k hk9; unfold zb1; split <;> omega))
  have hfh := hI.fl h hh
  show W p l e _ s m _ below meth c s.heap [] 0 0 _ (F0 m 0 ls [])
  rw [← hH]
  refine lv_aload_n hx hb dX2_findKeysUpTo_0 rfl (lv_at hl 1 rfl) ?_
  have hS : va_S A s.heap H _ := zz_Smono hS (fun _ h => h.elim)
  refine zz_after (pc := 1) rfl (zz_runV (ci := 3) (q0 := (RX0, TX0, 7)) (b := ad 3 h) (As := []) (rest := []) hx hb hml hown hts (c_X0_forgetKeys l (K := K) (A := A) (ad := ad) (E := E) (cap := cap) (N := N) (G := G) (L := L) hI hh) zw_120 zw_121 zw_122 zw_11 zw_123 zd_X0_forgetKeys ⟨Nat.le_of_ble_eq_true rfl, Nat.le_of_ble_eq_true rfl⟩ hZ.E hZ.A (zx_fl hZ.W (f := h) hh).1 rfl rfl hZ.W hl.1 (Nat.le_of_ble_eq_true rfl) dX2_findKeysUpTo_1 ⟨Nat.le_of_ble_eq_true rfl, Nat.le_of_ble_eq_true rfl⟩) hS (fun _ h => h) (fun v_3 H locs hq_1 hF_2 hS => ?_)
  refine W.widen (k := 0) (n := 0) (Nat.le_of_ble_eq_true rfl) (Nat.le_of_ble_eq_true rfl) ?_
  obtain ⟨rfl, hW9⟩ := hq_1
  have hZ : zz_Z K A s ad (zx_c K ad (zk_fo E h 13) cap N G L) H := hZ.mut hF_2 hW9
  refine W.eq (g2 := F0 m 4 ls []) rfl ?_
  refine lv_aload_n hx hb dX2_findKeysUpTo_4 rfl (lv_at hl 1 rfl) ?_
  refine zz_getN (ci := 3) (C := RX0) (T := TX0) (N := 7) (v := .int (nI (N 2 h))) hx hb hts hN hown hK (zx_fl hZ.W (f := h) hh).1 rfl zf_X0 2 (by decide) zn_338 (fun _ h9 => h9) rfl dX2_findKeysUpTo_5 ?_
  refine lv_aload_n hx hb dX2_findKeysUpTo_8 rfl (lv_at hl 0 rfl) ?_
  refine lv_bipush (v := (-100)) hx hb dX2_findKeysUpTo_9 (by decide) ?_
  refine lv_aload_n hx hb dX2_findKeysUpTo_11 rfl (lv_at hl 1 rfl) ?_
  refine zz_getN (ci := 3) (C := RX0) (T := TX0) (N := 7) (v := .int (nI h)) hx hb hts hN hown hK (zx_fl hZ.W (f := h) hh).1 rfl zf_X0 0 (by decide) zn_334 (fun _ h9 => h9) rfl dX2_findKeysUpTo_12 ?_
  refine zz_after (pc := 15) rfl (zz_runV (ci := 5) (q0 := (RX2, TX2, 8)) (b := ad 0 0) (As := [.int (-100), .int (nI h)]) (rest := [.int (nI (N 2 h))]) hx hb hml hown hts (c_X2_lossBetween l (K := K) (A := A) (ad := ad) (E := (zk_fo E h 13)) (cap := cap) (N := N) (G := G) (L := L) hI hk (-100) (nI h)) zw_125 zw_127 zs_2 zw_1 zw_128 zd_X2_lossBetween ⟨Nat.le_of_ble_eq_true rfl, Nat.le_of_ble_eq_true rfl⟩ hZ.E hZ.A (zx_ob hZ.W).1 rfl rfl hZ.W hl.1 (Nat.le_of_ble_eq_true rfl) dX2_findKeysUpTo_15 ⟨Nat.le_of_ble_eq_true rfl, Nat.le_of_ble_eq_true rfl⟩) hS (fun _ h => h.elim) (fun v_6 H locs hq_4 hF_5 hS => ?_)
  refine W.widen (k := 0) (n := 0) (Nat.le_of_ble_eq_true rfl) (Nat.le_of_ble_eq_true rfl) ?_
  obtain rfl := hq_4
  have hZ := hZ.ro hF_5
  refine W.eq (g2 := F0 m 18 ls [.int (nI 3 * zlbs N (-100) (nI h) (N 0 2)), .int (nI (N 2 h))]) rfl ?_
  refine zz_cv (y := nI (3 * zsum (zb1 N h) (N 0 2))) (zz_3 (zlbs_1 (by omega) _ hw6)) ?_
  refine zz_add hx hb dX2_findKeysUpTo_18 ?_
  refine lv_istore_n (lv' := [(3, .int (nI ((N 2 h) + (3 * zsum (zb1 N h) (N 0 2))))), (0, .ref (ad 0 0)), (1, .ref (ad 3 h)), (2, .int (nI (N 0 2)))]) hx hb dX2_findKeysUpTo_19 rfl hl (Nat.le_of_ble_eq_true rfl) rfl (fun ls hl => ?_)
  refine lv_aload_n hx hb dX2_findKeysUpTo_20 rfl (lv_at hl 2 rfl) ?_
  refine lv_aload_n hx hb dX2_findKeysUpTo_21 rfl (lv_at hl 2 rfl) ?_
  refine zz_getN (ci := 3) (C := RX0) (T := TX0) (N := 7) (v := .int (nI (N 1 h))) hx hb hts hN hown hK (zx_fl hZ.W (f := h) hh).1 rfl zf_X0 1 (by decide) zn_336 (fun _ h9 => h9) rfl dX2_findKeysUpTo_22 ?_
  refine lv_iload_n hx hb dX2_findKeysUpTo_25 rfl (lv_at hl 3 rfl) ?_
  refine va_mmin hx hb (by rw [hml]; exact hl.1.symm) hown (hts _ zw_130) (hts _ zw_131) (hts _ zw_13) (hts _ zw_132) (Nat.le_of_ble_eq_true rfl) (Nat.le_of_ble_eq_true rfl) (Nat.le_of_ble_eq_true rfl) (Nat.le_of_ble_eq_true rfl) dX2_findKeysUpTo_26 ?_
  rw [zz_minN2 (by omega) (by omega)]
  refine lv_bipush (v := nI 64) hx hb dX2_findKeysUpTo_29 (by decide) ?_
  refine lv_iload_n hx hb dX2_findKeysUpTo_31 rfl (lv_at hl 0 rfl) ?_
  refine zz_mul hx hb dX2_findKeysUpTo_32 ?_
  refine lv_aload_n hx hb dX2_findKeysUpTo_33 rfl (lv_at hl 2 rfl) ?_
  refine zz_after (pc := 34) rfl (zz_runV (ci := 3) (q0 := (RX0, TX0, 7)) (b := ad 3 h) (As := []) (rest := [.int (nI (64 * ((N 2 h) + (3 * zsum (zb1 N h) (N 0 2))))), .int (nI (min (N 1 h) (N 0 2))), .ref (ad 3 h)]) hx hb hml hown hts (c_X0_bit l (K := K) (A := A) (ad := ad) (E := (zk_fo E h 13)) (cap := cap) (N := N) (G := G) (L := L) hI hh) zw_133 zw_134 zw_135 zw_11 zw_136 zd_X0_bit ⟨Nat.le_of_ble_eq_true rfl, Nat.le_of_ble_eq_true rfl⟩ hZ.E hZ.A (zx_fl hZ.W (f := h) hh).1 rfl rfl hZ.W hl.1 (Nat.le_of_ble_eq_true rfl) dX2_findKeysUpTo_34 ⟨Nat.le_of_ble_eq_true rfl, Nat.le_of_ble_eq_true rfl⟩) hS (fun _ h => h.elim) (fun v_9 H locs hq_7 hF_8 hS => ?_)
  refine W.widen (k := 0) (n := 0) (Nat.le_of_ble_eq_true rfl) (Nat.le_of_ble_eq_true rfl) ?_
  obtain rfl := hq_7
  have hZ := hZ.ro hF_8
  refine W.eq (g2 := F0 m 37 ls [.int (nI (2 ^ h)), .int (nI (64 * ((N 2 h) + (3 * zsum (zb1 N h) (N 0 2))))), .int (nI (min (N 1 h) (N 0 2))), .ref (ad 3 h)]) rfl ?_
  refine zz_add hx hb dX2_findKeysUpTo_37 ?_
  refine zz_after (pc := 38) rfl (zz_runV (ci := 3) (q0 := (RX0, TX0, 7)) (b := ad 3 h) (As := [.int (nI (min (N 1 h) (N 0 2))), .int (nI ((64 * ((N 2 h) + (3 * zsum (zb1 N h) (N 0 2)))) + (2 ^ h)))]) (rest := []) hx hb hml hown hts (c_X0_offerKey l (K := K) (A := A) (ad := ad) (E := (zk_fo E h 13)) (cap := cap) (N := N) (G := G) (L := L) hI hh (by first | exact hB _ _ | exact hUa _ | exact hUb _ | exact hUc _ | exact hUd _ | omega)) zw_137 zw_138 zw_139 zw_11 zw_140 zd_X0_offerKey ⟨Nat.le_of_ble_eq_true rfl, Nat.le_of_ble_eq_true rfl⟩ hZ.E hZ.A (zx_fl hZ.W (f := h) hh).1 rfl rfl hZ.W hl.1 (Nat.le_of_ble_eq_true rfl) dX2_findKeysUpTo_38 ⟨Nat.le_of_ble_eq_true rfl, Nat.le_of_ble_eq_true rfl⟩) hS (fun _ h => h) (fun v_12 H locs hq_10 hF_11 hS => ?_)
  refine W.widen (k := 0) (n := 0) (Nat.le_of_ble_eq_true rfl) (Nat.le_of_ble_eq_true rfl) ?_
  obtain ⟨rfl, hW9⟩ := hq_10
  have hZ : zz_Z K A s ad (zx_c K ad (zk_of (zk_fo E h 13) h (min (N 1 h) (N 0 2)) (nI ((64 * ((N 2 h) + (3 * zsum (zb1 N h) (N 0 2)))) + (2 ^ h)))) cap N G L) H := hZ.mut hF_11 hW9
  refine W.eq (g2 := F0 m 41 ls []) rfl ?_
  refine zz_con 0 hx hb dX2_findKeysUpTo_41 (by decide) ?_
  refine lv_istore (lv' := [(4, .int (nI 0)), (3, .int (nI ((N 2 h) + (3 * zsum (zb1 N h) (N 0 2))))), (0, .ref (ad 0 0)), (1, .ref (ad 3 h)), (2, .int (nI (N 0 2)))]) hx hb dX2_findKeysUpTo_42 hl (Nat.le_of_ble_eq_true rfl) rfl (fun ls hl => ?_)
  have hL_14 : ∀ (k i : Nat), i ≤ h → h < i + k → ∀ (H : Heap) (locs : List Loc) (ls : Array Slot), zz_Z K A s ad (zx_c K ad (zau N h (zal N h E) i) cap N G L) H → va_S A s.heap H locs → lv_has ls 5 [(4, .int (nI i)), (3, .int (nI ((N 2 h) + (3 * zsum (zb1 N h) (N 0 2))))), (0, .ref (ad 0 0)), (1, .ref (ad 3 h)), (2, .int (nI (N 0 2)))] → W p l e ({ frames := 5, cells := 0, slots := 0, locals := 116 } : Room) s m ([.ref (ad 0 0), .ref (ad 3 h), .int (nI (N 0 2))] : List Value).toArray below meth c H locs 0 0 (vx_MQ below (zz_Qc (fun v9 _ H9 => v9 = none ∧ zz_W K A ad (zx_c K ad (zku N h E) cap N G L) H9) A) (zz_XC zz_nx) ([.ref (ad 0 0), .ref (ad 3 h), .int (nI (N 0 2))] : List Value).toArray s ({ frames := 5, cells := 0, slots := 0, locals := 116 } : Room).cells ({ frames := 5, cells := 0, slots := 0, locals := 116 } : Room).slots A) (F0 m 44 ls []) := by
    intro k
    induction k with
    | zero => intro i hi hik; omega
    | succ k ih_i =>
      intro i hii hiki H locs ls hZ hS hl
      refine lv_iload hx hb dX2_findKeysUpTo_44 (lv_at hl 0 rfl) ?_
      refine lv_aload_n hx hb dX2_findKeysUpTo_46 rfl (lv_at hl 3 rfl) ?_
      refine zz_getN (ci := 3) (C := RX0) (T := TX0) (N := 7) (v := .int (nI h)) hx hb hts hN hown hK (zx_fl hZ.W (f := h) hh).1 rfl zf_X0 0 (by decide) zn_334 (fun _ h9 => h9) rfl dX2_findKeysUpTo_47 ?_
      refine zz_ic_ge (tgt := 89) (by first | exact hB _ _ | exact hUa _ | exact hUb _ | exact hUc _ | exact hUd _ | omega) (by first | exact hB _ _ | exact hUa _ | exact hUb _ | exact hUc _ | exact hUd _ | omega) hx hb dX2_findKeysUpTo_50 (by decide) (fun c_15 => ?_) (fun c_15 => ?_)
      · skip
        obtain rfl : i = h := by omega
        refine zz_vret hx hb hr hlocks hS (Nat.le_of_ble_eq_true rfl) (Nat.le_of_ble_eq_true rfl) dX2_findKeysUpTo_89 ?_
        refine ⟨?_, ?_⟩
        · skip
          first | rfl | (simp [c_15]; done) | (simp_all; done) | (split <;> first | rfl | omega | (simp_all; done); done)
        · first | exact hZ.W | (refine zx_co ?_ ?_ ?_ ?_ hZ.W <;> first | rfl | (simp [c_15]; done) | (simp_all; done) | (split <;> first | rfl | omega | (simp_all; done); done))
      · skip
        refine lv_iload hx hb dX2_findKeysUpTo_53 (lv_at hl 0 rfl) ?_
        refine lv_aload_n hx hb dX2_findKeysUpTo_55 rfl (lv_at hl 2 rfl) ?_
        refine zz_get (ci := 5) (C := RX2) (T := TX2) (N := 8) (v := .ref (ad 1 0)) hx hb hts hown hK (zx_ob hZ.W).1 rfl zf_X2 0 (by decide) zw_59 (fun _ h9 => h9) rfl dX2_findKeysUpTo_56 ?_
        refine zz_after (pc := 59) rfl (zz_runV (ci := 2) (q0 := (RJx4a65c, TJx4a65c, 3)) (b := ad 1 0) (As := []) (rest := [.int (nI i)]) hx hb hml hown hts (c_Jx4a65c_size_8abf5 l (K := K) (A := A) (ad := ad) (E := (zau N h (zal N h E) i)) (cap := cap) (N := N) (G := G) (L := L) hk (by decide)) zw_88 zw_89 zw_90 zw_4 zw_91 zd_Jx4a65c_size_8abf5 ⟨Nat.le_of_ble_eq_true rfl, Nat.le_of_ble_eq_true rfl⟩ hZ.E hZ.A (zx_li hZ.W (t := 0) (by decide)).1 rfl rfl hZ.W hl.1 (Nat.le_of_ble_eq_true rfl) dX2_findKeysUpTo_59 ⟨Nat.le_of_ble_eq_true rfl, Nat.le_of_ble_eq_true rfl⟩) hS (fun _ h => h.elim) (fun v_18 H locs hq_16 hF_17 hS => ?_)
        refine W.widen (k := 0) (n := 0) (Nat.le_of_ble_eq_true rfl) (Nat.le_of_ble_eq_true rfl) ?_
        obtain rfl := hq_16
        have hZ := hZ.ro hF_17
        refine W.eq (g2 := F0 m 62 ls [.int (nI (N 0 0)), .int (nI i)]) rfl ?_
        refine zz_ic_ge (tgt := 89) (by first | exact hB _ _ | exact hUa _ | exact hUb _ | exact hUc _ | exact hUd _ | omega) (by first | exact hB _ _ | exact hUa _ | exact hUb _ | exact hUc _ | exact hUd _ | omega) hx hb dX2_findKeysUpTo_62 (by decide) (fun c_19 => ?_) (fun c_19 => ?_)
        · skip
          omega
        · skip
          refine lv_aload_n hx hb dX2_findKeysUpTo_65 rfl (lv_at hl 2 rfl) ?_
          refine lv_aload_n hx hb dX2_findKeysUpTo_66 rfl (lv_at hl 2 rfl) ?_
          refine zz_get (ci := 5) (C := RX2) (T := TX2) (N := 8) (v := .ref (ad 1 0)) hx hb hts hown hK (zx_ob hZ.W).1 rfl zf_X2 0 (by decide) zw_59 (fun _ h9 => h9) rfl dX2_findKeysUpTo_67 ?_
          refine lv_iload hx hb dX2_findKeysUpTo_70 (lv_at hl 0 rfl) ?_
          have hj_20 : i < N 0 0 := by omega
          refine zz_after (pc := 72) rfl (zz_runV (ci := 2) (q0 := (RJx4a65c, TJx4a65c, 3)) (b := ad 1 0) (As := [.int (nI i)]) (rest := [.ref (ad 0 0)]) hx hb hml hown hts (c_Jx4a65c_get_915e3 l (K := K) (A := A) (ad := ad) (E := (zau N h (zal N h E) i)) (cap := cap) (N := N) (G := G) (L := L) hk (by decide) (j := i) (r := (ad 3 i)) hj_20 (zx_g0 hj_20)) zw_101 zw_102 zw_103 zw_4 zw_104 zd_Jx4a65c_get_915e3 ⟨Nat.le_of_ble_eq_true rfl, Nat.le_of_ble_eq_true rfl⟩ hZ.E hZ.A (zx_li hZ.W (t := 0) (by decide)).1 rfl rfl hZ.W hl.1 (Nat.le_of_ble_eq_true rfl) dX2_findKeysUpTo_72 ⟨Nat.le_of_ble_eq_true rfl, Nat.le_of_ble_eq_true rfl⟩) hS (fun _ h => h.elim) (fun v_23 H locs hq_21 hF_22 hS => ?_)
          refine W.widen (k := 0) (n := 0) (Nat.le_of_ble_eq_true rfl) (Nat.le_of_ble_eq_true rfl) ?_
          obtain rfl := hq_21
          have hZ := hZ.ro hF_22
          refine W.eq (g2 := F0 m 75 ls [.ref (ad 3 i), .ref (ad 0 0)]) rfl ?_
          refine va_castS hx hb hown (hts _ zw_115) (hK.1 3 _ rfl).2 (zz_rc hK (zx_fl hZ.W (f := i) hj_20).1 rfl) dX2_findKeysUpTo_75 ?_
          refine lv_aload_n hx hb dX2_findKeysUpTo_78 rfl (lv_at hl 3 rfl) ?_
          refine lv_iload_n hx hb dX2_findKeysUpTo_79 rfl (lv_at hl 4 rfl) ?_
          refine zz_after (pc := 80) rfl (zz_runV (ci := 5) (q0 := (RX2, TX2, 8)) (b := ad 0 0) (As := [.ref (ad 3 i), .ref (ad 3 h), .int (nI (N 0 2))]) (rest := []) hx hb hml hown hts (c_X2_addFloorToSetsOf l (K := K) (A := A) (ad := ad) (E := (zau N h (zal N h E) i)) (cap := cap) (N := N) (G := G) (L := L) hI hk hj_20 hh) zw_141 zw_143 zs_3 zw_1 zw_144 zd_X2_addFloorToSetsOf ⟨Nat.le_of_ble_eq_true rfl, Nat.le_of_ble_eq_true rfl⟩ hZ.E hZ.A (zx_ob hZ.W).1 rfl rfl hZ.W hl.1 (Nat.le_of_ble_eq_true rfl) dX2_findKeysUpTo_80 ⟨Nat.le_of_ble_eq_true rfl, Nat.le_of_ble_eq_true rfl⟩) hS (fun _ h => h) (fun v_26 H locs hq_24 hF_25 hS => ?_)
          refine W.widen (k := 0) (n := 0) (Nat.le_of_ble_eq_true rfl) (Nat.le_of_ble_eq_true rfl) ?_
          obtain ⟨rfl, hW9⟩ := hq_24
          have hZ : zz_Z K A s ad (zx_c K ad (zas N i h (zau N h (zal N h E) i) (N 0 2 + 1)) cap N G L) H := hZ.mut hF_25 hW9
          refine W.eq (g2 := F0 m 83 ls []) rfl ?_
          refine zz_inc (k := 0) (lv' := [(4, .int (nI (i + 1))), (3, .int (nI ((N 2 h) + (3 * zsum (zb1 N h) (N 0 2))))), (0, .ref (ad 0 0)), (1, .ref (ad 3 h)), (2, .int (nI (N 0 2)))]) hx hb dX2_findKeysUpTo_83 hl rfl (Nat.le_of_ble_eq_true rfl) rfl (fun ls hl => ?_)
          refine lv_goto (tgt := 44) hx hb dX2_findKeysUpTo_86 (by decide) ?_
          refine ih_i (i + 1) (by omega) (by omega) _ _ _ ?_ hS ?_
          · exact hZ
          · skip
            exact lv_sub hl [0, 1, 2, 3, 4] rfl
  refine hL_14 (h + 1) 0 (by first | omega | exact Nat.zero_le _) (by first | omega | (rw [Nat.zero_add]; exact Nat.lt_succ_self _)) _ _ _ ?_ hS ?_
  · exact hZ
  exact lv_sub hl [0, 1, 2, 3, 4] rfl

set_option maxHeartbeats 4000000 in
set_option maxRecDepth 100000 in
theorem c_X2_findPlanKey (l : Launch) {K : zz_G} {A : Nat → Prop} {ad : Nat → Nat → Nat} {E : Nat → Nat → Int32} {cap : Nat → Nat} {N : Nat → Nat → Nat} {G : Nat → Nat → Int32} {L : Nat → Int64} (hI : zq N) (hk : zk K ad cap N)  : zz_C l yX2_findPlanKey cX2_findPlanKey 6 (Option.some FieldType.int) ({ frames := 6, cells := 0, slots := 0, locals := 140 } : Room) K A [.ref (ad 0 0)] (fun H => zz_W K A ad (zx_c K ad E cap N G L) H) (fun v9 _ H9 => v9 = some (.int (nI (64 * zls 6 N (zplan N) + zplan N))) ∧ zz_W K A ad (zx_c K ad (zfE N E) cap N G L) H9) zz_nx A := by
  refine zz_body (by decide +kernel) (Nat.le_of_ble_eq_true rfl) ?_
  intro p e s m below meth c ls hx hb hr hml hts hown hlocks hmn htab hE hA hP hl
  have hN := hE.N
  have hK := hE.K
  have hown : s.vm.findClass RX2 = some m.cls := hown
  have hl : lv_has ls 6 [(0, .ref (ad 0 0))] := hl
  have hZ : zz_Z K A s ad (zx_c K ad E cap N G L) s.heap := ⟨hE, hA, hP⟩
  have hS : va_S zz_no s.heap s.heap [] := va_S.rf
  obtain ⟨H, hH⟩ : ∃ z, z = s.heap := ⟨_, rfl⟩
  have hS0 : va_S zz_no s.heap H [] := by rw [hH]; exact hS
  rw [← hH] at hZ
  have hE0 := hE
  clear hS
  have hS := hS0
  have hB := hI.B
  have hbk := hI.bk
  have h00 := hI.f
  have h01 := hI.p
  have h02 := hI.b
  have hk0 := hk 0 (by decide)
  have hk1 := hk 1 (by decide)
  have hk2 := hk 2 (by decide)
  have hw6 : ∀ k, k < N 0 2 → N 10 k < 6 := fun k hk9 => by have := hI.bf k hk9; omega
  have hplb : 64 * zls 6 N (zplan N) + zplan N < 400000 := by have h1 := zls_b hI (c := 6) (zplan N) (by decide); have h2 := zplan_b64 hI; omega
  have hpm : ¬ nI (64 * zls 6 N (zplan N) + zplan N) = 2147483647 := fun e => zmx (show 64 * zls 6 N (zplan N) + zplan N < 2000000000 by omega) (by rw [e]; exact Int32.le_refl _)
  show W p l e _ s m _ below meth c s.heap [] 0 0 _ (F0 m 0 ls [])
  rw [← hH]
  refine lv_aload_n hx hb dX2_findPlanKey_0 rfl (lv_at hl 0 rfl) ?_
  refine zz_get (ci := 5) (C := RX2) (T := TX2) (N := 8) (v := .ref (ad 1 2)) hx hb hts hown hK (zx_ob hZ.W).1 rfl zf_X2 2 (by decide) zw_61 (fun _ h9 => h9) rfl dX2_findPlanKey_1 ?_
  refine zz_after (pc := 4) rfl (zz_runV (ci := 2) (q0 := (RJx4a65c, TJx4a65c, 3)) (b := ad 1 2) (As := []) (rest := []) hx hb hml hown hts (c_Jx4a65c_size_8abf5 l (K := K) (A := A) (ad := ad) (E := E) (cap := cap) (N := N) (G := G) (L := L) hk (by decide)) zw_88 zw_89 zw_90 zw_4 zw_91 zd_Jx4a65c_size_8abf5 ⟨Nat.le_of_ble_eq_true rfl, Nat.le_of_ble_eq_true rfl⟩ hZ.E hZ.A (zx_li hZ.W (t := 2) (by decide)).1 rfl rfl hZ.W hl.1 (Nat.le_of_ble_eq_true rfl) dX2_findPlanKey_4 ⟨Nat.le_of_ble_eq_true rfl, Nat.le_of_ble_eq_true rfl⟩) hS (fun _ h => h.elim) (fun v_3 H locs hq_1 hF_2 hS => ?_)
  refine W.widen (k := 0) (n := 0) (Nat.le_of_ble_eq_true rfl) (Nat.le_of_ble_eq_true rfl) ?_
  obtain rfl := hq_1
  have hZ := hZ.ro hF_2
  refine W.eq (g2 := F0 m 7 ls [.int (nI (N 0 2))]) rfl ?_
  refine lv_istore_n (lv' := [(1, .int (nI (N 0 2))), (0, .ref (ad 0 0))]) hx hb dX2_findPlanKey_7 rfl hl (Nat.le_of_ble_eq_true rfl) rfl (fun ls hl => ?_)
  refine lv_iload_n hx hb dX2_findPlanKey_8 rfl (lv_at hl 0 rfl) ?_
  refine zz_if_ne (tgt := 14) (by first | exact hB _ _ | exact hUa _ | exact hUb _ | exact hUc _ | exact hUd _ | omega) hx hb dX2_findPlanKey_9 (by decide) (fun c_4 => ?_) (fun c_4 => ?_)
  · skip
    have h0b : ¬ N 0 2 = 0 := by assumption
    refine lv_ldc (v := 2147483647) hx hb hown (hts _ zw_100) dX2_findPlanKey_14 ?_
    refine lv_istore_n (lv' := [(2, .int 2147483647), (1, .int (nI (N 0 2))), (0, .ref (ad 0 0))]) hx hb dX2_findPlanKey_16 rfl hl (Nat.le_of_ble_eq_true rfl) rfl (fun ls hl => ?_)
    refine zz_con 0 hx hb dX2_findPlanKey_17 (by decide) ?_
    refine lv_istore_n (lv' := [(3, .int (nI 0)), (2, .int 2147483647), (1, .int (nI (N 0 2))), (0, .ref (ad 0 0))]) hx hb dX2_findPlanKey_18 rfl hl (Nat.le_of_ble_eq_true rfl) rfl (fun ls hl => ?_)
    have hS : va_S A s.heap H _ := zz_Smono hS (fun _ h => h.elim)
    have hL_6 : ∀ (k i : Nat), i ≤ N 0 0 → N 0 0 < i + k → ∀ (H : Heap) (locs : List Loc) (ls : Array Slot), zz_Z K A s ad (zx_c K ad ((zfp N E i).1) cap N G L) H → va_S A s.heap H locs → lv_has ls 6 [(3, .int (nI i)), (2, .int ((zfp N E i).2)), (1, .int (nI (N 0 2))), (0, .ref (ad 0 0))] → W p l e ({ frames := 6, cells := 0, slots := 0, locals := 140 } : Room) s m ([.ref (ad 0 0)] : List Value).toArray below meth c H locs 0 0 (vx_MQ below (zz_Qc (fun v9 _ H9 => v9 = some (.int (nI (64 * zls 6 N (zplan N) + zplan N))) ∧ zz_W K A ad (zx_c K ad (zfE N E) cap N G L) H9) A) (zz_XC zz_nx) ([.ref (ad 0 0)] : List Value).toArray s ({ frames := 6, cells := 0, slots := 0, locals := 140 } : Room).cells ({ frames := 6, cells := 0, slots := 0, locals := 140 } : Room).slots A) (F0 m 19 ls []) := by
      intro k
      induction k with
      | zero => intro i hi hik; omega
      | succ k ih_i =>
        intro i hii hiki H locs ls hZ hS hl
        have hzb : ∀ z, zsum (zb3 N z) (N 0 2) ≤ 72 := fun z => zsum_b6 hI (fun k hk9 => by (have := hw6 k hk9; unfold zb3; split <;> omega))
        have hzbi := hzb i
        refine lv_iload_n hx hb dX2_findPlanKey_19 rfl (lv_at hl 0 rfl) ?_
        refine lv_aload_n hx hb dX2_findPlanKey_20 rfl (lv_at hl 3 rfl) ?_
        refine zz_get (ci := 5) (C := RX2) (T := TX2) (N := 8) (v := .ref (ad 1 0)) hx hb hts hown hK (zx_ob hZ.W).1 rfl zf_X2 0 (by decide) zw_59 (fun _ h9 => h9) rfl dX2_findPlanKey_21 ?_
        refine zz_after (pc := 24) rfl (zz_runV (ci := 2) (q0 := (RJx4a65c, TJx4a65c, 3)) (b := ad 1 0) (As := []) (rest := [.int (nI i)]) hx hb hml hown hts (c_Jx4a65c_size_8abf5 l (K := K) (A := A) (ad := ad) (E := (zfp N E i).1) (cap := cap) (N := N) (G := G) (L := L) hk (by decide)) zw_88 zw_89 zw_90 zw_4 zw_91 zd_Jx4a65c_size_8abf5 ⟨Nat.le_of_ble_eq_true rfl, Nat.le_of_ble_eq_true rfl⟩ hZ.E hZ.A (zx_li hZ.W (t := 0) (by decide)).1 rfl rfl hZ.W hl.1 (Nat.le_of_ble_eq_true rfl) dX2_findPlanKey_24 ⟨Nat.le_of_ble_eq_true rfl, Nat.le_of_ble_eq_true rfl⟩) hS (fun _ h => h.elim) (fun v_9 H locs hq_7 hF_8 hS => ?_)
        refine W.widen (k := 0) (n := 0) (Nat.le_of_ble_eq_true rfl) (Nat.le_of_ble_eq_true rfl) ?_
        obtain rfl := hq_7
        have hZ := hZ.ro hF_8
        refine W.eq (g2 := F0 m 27 ls [.int (nI (N 0 0)), .int (nI i)]) rfl ?_
        refine zz_ic_ge (tgt := 93) (by first | exact hB _ _ | exact hUa _ | exact hUb _ | exact hUc _ | exact hUd _ | omega) (by first | exact hB _ _ | exact hUa _ | exact hUb _ | exact hUc _ | exact hUd _ | omega) hx hb dX2_findPlanKey_27 (by decide) (fun c_10 => ?_) (fun c_10 => ?_)
        · skip
          obtain rfl : i = N 0 0 := by omega
          have hpl := zfp_plan hI h0b E
          refine lv_iload_n hx hb dX2_findPlanKey_93 rfl (lv_at hl 1 rfl) ?_
          refine lv_ldc (v := 2147483647) hx hb hown (hts _ zw_100) dX2_findPlanKey_94 ?_
          refine lv_icmp_ne (tgt := 103) hx hb dX2_findPlanKey_96 (by decide) (fun c_11 => ?_) (fun c_11 => ?_)
          · skip
            refine lv_iload_n hx hb dX2_findPlanKey_103 rfl (lv_at hl 1 rfl) ?_
            refine zz_iret hx hb hr hlocks hS (Nat.le_of_ble_eq_true rfl) (Nat.le_of_ble_eq_true rfl) dX2_findPlanKey_104 ?_
            refine ⟨?_, ?_⟩
            · rw [hpl]
            · unfold zfE; rw [if_neg h0b]; exact hZ.W
          · skip
            refine zz_con 0 hx hb dX2_findPlanKey_99 (by decide) ?_
            refine lv_goto (tgt := 104) hx hb dX2_findPlanKey_100 (by decide) ?_
            refine zz_iret hx hb hr hlocks hS (Nat.le_of_ble_eq_true rfl) (Nat.le_of_ble_eq_true rfl) dX2_findPlanKey_104 ?_
            exact absurd (hpl.symm.trans (by assumption)) hpm
        · skip
          refine lv_aload_n hx hb dX2_findPlanKey_30 rfl (lv_at hl 3 rfl) ?_
          refine zz_get (ci := 5) (C := RX2) (T := TX2) (N := 8) (v := .ref (ad 1 0)) hx hb hts hown hK (zx_ob hZ.W).1 rfl zf_X2 0 (by decide) zw_59 (fun _ h9 => h9) rfl dX2_findPlanKey_31 ?_
          refine lv_iload_n hx hb dX2_findPlanKey_34 rfl (lv_at hl 0 rfl) ?_
          have hj_12 : i < N 0 0 := by omega
          refine zz_after (pc := 35) rfl (zz_runV (ci := 2) (q0 := (RJx4a65c, TJx4a65c, 3)) (b := ad 1 0) (As := [.int (nI i)]) (rest := []) hx hb hml hown hts (c_Jx4a65c_get_915e3 l (K := K) (A := A) (ad := ad) (E := (zfp N E i).1) (cap := cap) (N := N) (G := G) (L := L) hk (by decide) (j := i) (r := (ad 3 i)) hj_12 (zx_g0 hj_12)) zw_101 zw_102 zw_103 zw_4 zw_104 zd_Jx4a65c_get_915e3 ⟨Nat.le_of_ble_eq_true rfl, Nat.le_of_ble_eq_true rfl⟩ hZ.E hZ.A (zx_li hZ.W (t := 0) (by decide)).1 rfl rfl hZ.W hl.1 (Nat.le_of_ble_eq_true rfl) dX2_findPlanKey_35 ⟨Nat.le_of_ble_eq_true rfl, Nat.le_of_ble_eq_true rfl⟩) hS (fun _ h => h.elim) (fun v_15 H locs hq_13 hF_14 hS => ?_)
          refine W.widen (k := 0) (n := 0) (Nat.le_of_ble_eq_true rfl) (Nat.le_of_ble_eq_true rfl) ?_
          obtain rfl := hq_13
          have hZ := hZ.ro hF_14
          refine W.eq (g2 := F0 m 38 ls [.ref (ad 3 i)]) rfl ?_
          refine va_castS hx hb hown (hts _ zw_115) (hK.1 3 _ rfl).2 (zz_rc hK (zx_fl hZ.W (f := i) hj_12).1 rfl) dX2_findPlanKey_38 ?_
          refine lv_astore (lv' := [(4, .ref (ad 3 i)), (3, .int (nI i)), (2, .int ((zfp N E i).2)), (1, .int (nI (N 0 2))), (0, .ref (ad 0 0))]) hx hb dX2_findPlanKey_41 hl (Nat.le_of_ble_eq_true rfl) rfl (fun ls hl => ?_)
          refine lv_aload_n hx hb dX2_findPlanKey_43 rfl (lv_at hl 4 rfl) ?_
          refine lv_aload hx hb dX2_findPlanKey_44 (lv_at hl 0 rfl) ?_
          refine lv_iload_n hx hb dX2_findPlanKey_46 rfl (lv_at hl 3 rfl) ?_
          refine zz_after (pc := 47) rfl (zz_runV (ci := 5) (q0 := (RX2, TX2, 8)) (b := ad 0 0) (As := [.ref (ad 3 i), .int (nI (N 0 2))]) (rest := []) hx hb hml hown hts (c_X2_findKeysUpTo l (K := K) (A := A) (ad := ad) (E := (zfp N E i).1) (cap := cap) (N := N) (G := G) (L := L) hI hk hj_12) zw_116 zw_118 zs_1 zw_1 zw_119 zd_X2_findKeysUpTo ⟨Nat.le_of_ble_eq_true rfl, Nat.le_of_ble_eq_true rfl⟩ hZ.E hZ.A (zx_ob hZ.W).1 rfl rfl hZ.W hl.1 (Nat.le_of_ble_eq_true rfl) dX2_findPlanKey_47 ⟨Nat.le_of_ble_eq_true rfl, Nat.le_of_ble_eq_true rfl⟩) hS (fun _ h => h) (fun v_18 H locs hq_16 hF_17 hS => ?_)
          refine W.widen (k := 0) (n := 0) (Nat.le_of_ble_eq_true rfl) (Nat.le_of_ble_eq_true rfl) ?_
          obtain ⟨rfl, hW9⟩ := hq_16
          have hZ : zz_Z K A s ad (zx_c K ad (zku N i ((zfp N E i).1)) cap N G L) H := hZ.mut hF_17 hW9
          refine W.eq (g2 := F0 m 50 ls []) rfl ?_
          refine lv_aload hx hb dX2_findPlanKey_50 (lv_at hl 0 rfl) ?_
          refine lv_iload_n hx hb dX2_findPlanKey_52 rfl (lv_at hl 3 rfl) ?_
          refine zz_after (pc := 53) rfl (zz_runV (ci := 3) (q0 := (RX0, TX0, 7)) (b := ad 3 i) (As := [.int (nI (N 0 2))]) (rest := []) hx hb hml hown hts (c_X0_keyFor l (K := K) (A := A) (ad := ad) (E := (zku N i ((zfp N E i).1))) (cap := cap) (N := N) (G := G) (L := L) hI hj_12 (by first | exact hB _ _ | exact hUa _ | exact hUb _ | exact hUc _ | exact hUd _ | omega)) zw_145 zw_146 zw_147 zw_11 zw_148 zd_X0_keyFor ⟨Nat.le_of_ble_eq_true rfl, Nat.le_of_ble_eq_true rfl⟩ hZ.E hZ.A (zx_fl hZ.W (f := i) hj_12).1 rfl rfl hZ.W hl.1 (Nat.le_of_ble_eq_true rfl) dX2_findPlanKey_53 ⟨Nat.le_of_ble_eq_true rfl, Nat.le_of_ble_eq_true rfl⟩) hS (fun _ h => h.elim) (fun v_21 H locs hq_19 hF_20 hS => ?_)
          refine W.widen (k := 0) (n := 0) (Nat.le_of_ble_eq_true rfl) (Nat.le_of_ble_eq_true rfl) ?_
          obtain rfl := hq_19
          have hZ := hZ.ro hF_20
          refine W.eq (g2 := F0 m 56 ls [.int (if N 0 2 < 13 then (zku N i ((zfp N E i).1)) (1 + i) (N 0 2) else 2147483647)]) rfl ?_
          refine zz_cv (y := (zku N i (zfp N E i).1) (1 + i) (N 0 2)) (if_pos (by omega)) ?_
          refine lv_istore (lv' := [(5, .int ((zku N i (zfp N E i).1) (1 + i) (N 0 2))), (4, .ref (ad 3 i)), (3, .int (nI i)), (2, .int ((zfp N E i).2)), (1, .int (nI (N 0 2))), (0, .ref (ad 0 0))]) hx hb dX2_findPlanKey_56 hl (Nat.le_of_ble_eq_true rfl) rfl (fun ls hl => ?_)
          refine lv_iload hx hb dX2_findPlanKey_58 (lv_at hl 0 rfl) ?_
          refine lv_ldc (v := 2147483647) hx hb hown (hts _ zw_100) dX2_findPlanKey_60 ?_
          refine lv_icmp_eq (tgt := 87) hx hb dX2_findPlanKey_62 (by decide) (fun c_22 => ?_) (fun c_22 => ?_)
          · skip
            have hz1 : (zfp N E (i + 1)).2 = (zfp N E i).2 := by (rw [zfp]; exact if_pos c_22)
            refine zz_inc (k := 2) (lv' := [(3, .int (nI (i + 1))), (5, .int ((zku N i (zfp N E i).1) (1 + i) (N 0 2))), (4, .ref (ad 3 i)), (2, .int ((zfp N E i).2)), (1, .int (nI (N 0 2))), (0, .ref (ad 0 0))]) hx hb dX2_findPlanKey_87 hl rfl (Nat.le_of_ble_eq_true rfl) rfl (fun ls hl => ?_)
            refine lv_goto (tgt := 19) hx hb dX2_findPlanKey_90 (by decide) ?_
            refine ih_i (i + 1) (by omega) (by omega) _ _ _ ?_ hS ?_
            · exact hZ
            · skip
              rw [show (.int ((zfp N E (i + 1)).2) : Value) = .int ((zfp N E i).2) from congrArg Value.int (by first | rfl | (rw [hz1]; done) | ((rw [hz1]; rfl); done))]
              exact lv_sub hl [0, 3, 4, 5] rfl
          · skip
            have hz1 : (zfp N E (i + 1)).2 = zfm (zfp N E i).2 ((zku N i (zfp N E i).1) (1 + i) (N 0 2) + nI (64 * (3 * zsum (zb3 N i) (N 0 2)))) := by (rw [zfp]; exact if_neg c_22)
            refine lv_iload_n hx hb dX2_findPlanKey_65 rfl (lv_at hl 3 rfl) ?_
            refine lv_iload hx hb dX2_findPlanKey_66 (lv_at hl 0 rfl) ?_
            refine lv_bipush (v := nI 64) hx hb dX2_findPlanKey_68 (by decide) ?_
            refine lv_aload_n hx hb dX2_findPlanKey_70 rfl (lv_at hl 5 rfl) ?_
            refine lv_aload hx hb dX2_findPlanKey_71 (lv_at hl 1 rfl) ?_
            refine zz_getN (ci := 3) (C := RX0) (T := TX0) (N := 7) (v := .int (nI i)) hx hb hts hN hown hK (zx_fl hZ.W (f := i) hj_12).1 rfl zf_X0 0 (by decide) zn_334 (fun _ h9 => h9) rfl dX2_findPlanKey_73 ?_
            refine lv_bipush (v := nI 100) hx hb dX2_findPlanKey_76 (by decide) ?_
            refine zz_after (pc := 78) rfl (zz_runV (ci := 5) (q0 := (RX2, TX2, 8)) (b := ad 0 0) (As := [.int (nI i), .int (nI 100)]) (rest := [.int (nI 64), .int ((zku N i (zfp N E i).1) (1 + i) (N 0 2)), .int ((zfp N E i).2)]) hx hb hml hown hts (c_X2_lossBetween l (K := K) (A := A) (ad := ad) (E := (zku N i ((zfp N E i).1))) (cap := cap) (N := N) (G := G) (L := L) hI hk (nI i) (nI 100)) zw_125 zw_127 zs_2 zw_1 zw_128 zd_X2_lossBetween ⟨Nat.le_of_ble_eq_true rfl, Nat.le_of_ble_eq_true rfl⟩ hZ.E hZ.A (zx_ob hZ.W).1 rfl rfl hZ.W hl.1 (Nat.le_of_ble_eq_true rfl) dX2_findPlanKey_78 ⟨Nat.le_of_ble_eq_true rfl, Nat.le_of_ble_eq_true rfl⟩) hS (fun _ h => h.elim) (fun v_25 H locs hq_23 hF_24 hS => ?_)
            refine W.widen (k := 0) (n := 0) (Nat.le_of_ble_eq_true rfl) (Nat.le_of_ble_eq_true rfl) ?_
            obtain rfl := hq_23
            have hZ := hZ.ro hF_24
            refine W.eq (g2 := F0 m 81 ls [.int (nI 3 * zlbs N (nI i) (nI 100) (N 0 2)), .int (nI 64), .int ((zku N i (zfp N E i).1) (1 + i) (N 0 2)), .int ((zfp N E i).2)]) rfl ?_
            refine zz_cv (y := nI (3 * zsum (zb3 N i) (N 0 2))) (zz_3 (zlbs_3 (by omega) _ hw6)) ?_
            refine zz_mul hx hb dX2_findPlanKey_81 ?_
            refine lv_iadd hx hb dX2_findPlanKey_82 ?_
            refine va_mmin hx hb (by rw [hml]; exact hl.1.symm) hown (hts _ zw_130) (hts _ zw_131) (hts _ zw_13) (hts _ zw_132) (Nat.le_of_ble_eq_true rfl) (Nat.le_of_ble_eq_true rfl) (Nat.le_of_ble_eq_true rfl) (Nat.le_of_ble_eq_true rfl) dX2_findPlanKey_83 ?_
            show W _ _ _ _ _ _ _ _ _ _ _ _ _ _ _ (F0 _ _ _ (.int (zfm _ _) :: _))
            refine lv_istore_n (lv' := [(2, .int (zfm (zfp N E i).2 ((zku N i (zfp N E i).1) (1 + i) (N 0 2) + nI (64 * (3 * zsum (zb3 N i) (N 0 2)))))), (5, .int ((zku N i (zfp N E i).1) (1 + i) (N 0 2))), (4, .ref (ad 3 i)), (3, .int (nI i)), (1, .int (nI (N 0 2))), (0, .ref (ad 0 0))]) hx hb dX2_findPlanKey_86 rfl hl (Nat.le_of_ble_eq_true rfl) rfl (fun ls hl => ?_)
            refine zz_inc (k := 3) (lv' := [(3, .int (nI (i + 1))), (2, .int (zfm (zfp N E i).2 ((zku N i (zfp N E i).1) (1 + i) (N 0 2) + nI (64 * (3 * zsum (zb3 N i) (N 0 2)))))), (5, .int ((zku N i (zfp N E i).1) (1 + i) (N 0 2))), (4, .ref (ad 3 i)), (1, .int (nI (N 0 2))), (0, .ref (ad 0 0))]) hx hb dX2_findPlanKey_87 hl rfl (Nat.le_of_ble_eq_true rfl) rfl (fun ls hl => ?_)
            refine lv_goto (tgt := 19) hx hb dX2_findPlanKey_90 (by decide) ?_
            refine ih_i (i + 1) (by omega) (by omega) _ _ _ ?_ hS ?_
            · exact hZ
            · skip
              rw [show (.int ((zfp N E (i + 1)).2) : Value) = .int (zfm (zfp N E i).2 ((zku N i (zfp N E i).1) (1 + i) (N 0 2) + nI (64 * (3 * zsum (zb3 N i) (N 0 2))))) from congrArg Value.int (by first | rfl | (rw [hz1]; done) | ((rw [hz1]; rfl); done))]
              exact lv_sub hl [0, 1, 4, 5] rfl
    refine hL_6 (N 0 0 + 1) 0 (by first | omega | exact Nat.zero_le _) (by first | omega | (rw [Nat.zero_add]; exact Nat.lt_succ_self _)) _ _ _ ?_ hS ?_
    · exact hZ
    exact lv_sub (show lv_has _ _ _ from hl) [0, 1, 2, 3] rfl
  · skip
    refine zz_con 0 hx hb dX2_findPlanKey_12 (by decide) ?_
    have hS : va_S A s.heap H _ := zz_Smono hS (fun _ h => h.elim)
    refine zz_iret hx hb hr hlocks hS (Nat.le_of_ble_eq_true rfl) (Nat.le_of_ble_eq_true rfl) dX2_findPlanKey_13 ?_
    have e0 : N 0 2 = 0 := by assumption
    refine ⟨?_, ?_⟩
    · exact congrArg (fun z => some (Value.int (nI z))) (zfk_0 e0).symm
    · unfold zfE; rw [if_pos e0]; exact hZ.W

set_option maxHeartbeats 4000000 in
set_option maxRecDepth 100000 in
theorem c_X2_plan (l : Launch) {K : zz_G} {A : Nat → Prop} {ad : Nat → Nat → Nat} {E : Nat → Nat → Int32} {cap : Nat → Nat} {N : Nat → Nat → Nat} {G : Nat → Nat → Int32} {L : Nat → Int64} (hI : zq N) (hk : zk K ad cap N)  : zz_C l yX2_plan cX2_plan 1 (Option.some FieldType.int) ({ frames := 7, cells := 0, slots := 0, locals := 165 } : Room) K A [.ref (ad 0 0)] (fun H => zz_W K A ad (zx_c K ad E cap N G L) H) (fun v9 _ H9 => v9 = some (.int (nI (zplan N))) ∧ zz_W K A ad (zx_c K ad (zfE N E) cap N G L) H9) zz_nx A := by
  refine zz_body (by decide +kernel) (Nat.le_of_ble_eq_true rfl) ?_
  intro p e s m below meth c ls hx hb hr hml hts hown hlocks hmn htab hE hA hP hl
  have hN := hE.N
  have hK := hE.K
  have hown : s.vm.findClass RX2 = some m.cls := hown
  have hl : lv_has ls 1 [(0, .ref (ad 0 0))] := hl
  have hZ : zz_Z K A s ad (zx_c K ad E cap N G L) s.heap := ⟨hE, hA, hP⟩
  have hS : va_S zz_no s.heap s.heap [] := va_S.rf
  obtain ⟨H, hH⟩ : ∃ z, z = s.heap := ⟨_, rfl⟩
  have hS0 : va_S zz_no s.heap H [] := by rw [hH]; exact hS
  rw [← hH] at hZ
  have hE0 := hE
  clear hS
  have hS := hS0
  have hB := hI.B
  have hbk := hI.bk
  have h00 := hI.f
  have h01 := hI.p
  have h02 := hI.b
  have hk0 := hk 0 (by decide)
  have hk1 := hk 1 (by decide)
  have hk2 := hk 2 (by decide)
  have hplb : 64 * zls 6 N (zplan N) + zplan N < 400000 := by have h1 := zls_b hI (c := 6) (zplan N) (by decide); have h2 := zplan_b64 hI; omega
  have hpm : ¬ nI (64 * zls 6 N (zplan N) + zplan N) = 2147483647 := fun e => zmx (show 64 * zls 6 N (zplan N) + zplan N < 2000000000 by omega) (by rw [e]; exact Int32.le_refl _)
  have h64 := zplan_b64 hI
  show W p l e _ s m _ below meth c s.heap [] 0 0 _ (F0 m 0 ls [])
  rw [← hH]
  refine lv_aload_n hx hb dX2_plan_0 rfl (lv_at hl 0 rfl) ?_
  have hS : va_S A s.heap H _ := zz_Smono hS (fun _ h => h.elim)
  refine zz_after (pc := 1) rfl (zz_runV (ci := 5) (q0 := (RX2, TX2, 8)) (b := ad 0 0) (As := []) (rest := []) hx hb hml hown hts (c_X2_findPlanKey l (K := K) (A := A) (ad := ad) (E := E) (cap := cap) (N := N) (G := G) (L := L) hI hk ) zw_96 zw_98 zs_0 zw_1 zw_99 zd_X2_findPlanKey ⟨Nat.le_of_ble_eq_true rfl, Nat.le_of_ble_eq_true rfl⟩ hZ.E hZ.A (zx_ob hZ.W).1 rfl rfl hZ.W hl.1 (Nat.le_of_ble_eq_true rfl) dX2_plan_1 ⟨Nat.le_of_ble_eq_true rfl, Nat.le_of_ble_eq_true rfl⟩) hS (fun _ h => h) (fun v_3 H locs hq_1 hF_2 hS => ?_)
  refine W.widen (k := 0) (n := 0) (Nat.le_of_ble_eq_true rfl) (Nat.le_of_ble_eq_true rfl) ?_
  obtain ⟨rfl, hW9⟩ := hq_1
  have hZ : zz_Z K A s ad (zx_c K ad (zfE N E) cap N G L) H := hZ.mut hF_2 hW9
  refine W.eq (g2 := F0 m 4 ls [.int (nI (64 * zls 6 N (zplan N) + zplan N))]) rfl ?_
  refine lv_bipush (v := nI 64) hx hb dX2_plan_4 (by decide) ?_
  refine lv_irem hx hb dX2_plan_6 (by decide) ?_
  refine zz_iret hx hb hr hlocks hS (Nat.le_of_ble_eq_true rfl) (Nat.le_of_ble_eq_true rfl) dX2_plan_7 ?_
  refine ⟨?_, ?_⟩
  · skip
    exact congrArg (fun z => some (Value.int z)) (zz_rem64 (by omega) (by omega))
  · first | exact hZ.W | (refine zx_co ?_ ?_ ?_ ?_ hZ.W <;> first | rfl | (simp []; done) | (simp_all; done) | (split <;> first | rfl | omega | (simp_all; done); done))

set_option maxHeartbeats 4000000 in
set_option maxRecDepth 100000 in
theorem c_X2_planLoss (l : Launch) {K : zz_G} {A : Nat → Prop} {ad : Nat → Nat → Nat} {E : Nat → Nat → Int32} {cap : Nat → Nat} {N : Nat → Nat → Nat} {G : Nat → Nat → Int32} {L : Nat → Int64} (hI : zq N) (hk : zk K ad cap N)  : zz_C l yX2_planLoss cX2_planLoss 1 (Option.some FieldType.int) ({ frames := 7, cells := 0, slots := 0, locals := 165 } : Room) K A [.ref (ad 0 0)] (fun H => zz_W K A ad (zx_c K ad E cap N G L) H) (fun v9 _ H9 => v9 = some (.int (nI (zls 6 N (zplan N)))) ∧ zz_W K A ad (zx_c K ad (zfE N E) cap N G L) H9) zz_nx A := by
  refine zz_body (by decide +kernel) (Nat.le_of_ble_eq_true rfl) ?_
  intro p e s m below meth c ls hx hb hr hml hts hown hlocks hmn htab hE hA hP hl
  have hN := hE.N
  have hK := hE.K
  have hown : s.vm.findClass RX2 = some m.cls := hown
  have hl : lv_has ls 1 [(0, .ref (ad 0 0))] := hl
  have hZ : zz_Z K A s ad (zx_c K ad E cap N G L) s.heap := ⟨hE, hA, hP⟩
  have hS : va_S zz_no s.heap s.heap [] := va_S.rf
  obtain ⟨H, hH⟩ : ∃ z, z = s.heap := ⟨_, rfl⟩
  have hS0 : va_S zz_no s.heap H [] := by rw [hH]; exact hS
  rw [← hH] at hZ
  have hE0 := hE
  clear hS
  have hS := hS0
  have hB := hI.B
  have hbk := hI.bk
  have h00 := hI.f
  have h01 := hI.p
  have h02 := hI.b
  have hk0 := hk 0 (by decide)
  have hk1 := hk 1 (by decide)
  have hk2 := hk 2 (by decide)
  have hplb : 64 * zls 6 N (zplan N) + zplan N < 400000 := by have h1 := zls_b hI (c := 6) (zplan N) (by decide); have h2 := zplan_b64 hI; omega
  have hpm : ¬ nI (64 * zls 6 N (zplan N) + zplan N) = 2147483647 := fun e => zmx (show 64 * zls 6 N (zplan N) + zplan N < 2000000000 by omega) (by rw [e]; exact Int32.le_refl _)
  have h64 := zplan_b64 hI
  show W p l e _ s m _ below meth c s.heap [] 0 0 _ (F0 m 0 ls [])
  rw [← hH]
  refine lv_aload_n hx hb dX2_planLoss_0 rfl (lv_at hl 0 rfl) ?_
  have hS : va_S A s.heap H _ := zz_Smono hS (fun _ h => h.elim)
  refine zz_after (pc := 1) rfl (zz_runV (ci := 5) (q0 := (RX2, TX2, 8)) (b := ad 0 0) (As := []) (rest := []) hx hb hml hown hts (c_X2_findPlanKey l (K := K) (A := A) (ad := ad) (E := E) (cap := cap) (N := N) (G := G) (L := L) hI hk ) zw_96 zw_98 zs_0 zw_1 zw_99 zd_X2_findPlanKey ⟨Nat.le_of_ble_eq_true rfl, Nat.le_of_ble_eq_true rfl⟩ hZ.E hZ.A (zx_ob hZ.W).1 rfl rfl hZ.W hl.1 (Nat.le_of_ble_eq_true rfl) dX2_planLoss_1 ⟨Nat.le_of_ble_eq_true rfl, Nat.le_of_ble_eq_true rfl⟩) hS (fun _ h => h) (fun v_3 H locs hq_1 hF_2 hS => ?_)
  refine W.widen (k := 0) (n := 0) (Nat.le_of_ble_eq_true rfl) (Nat.le_of_ble_eq_true rfl) ?_
  obtain ⟨rfl, hW9⟩ := hq_1
  have hZ : zz_Z K A s ad (zx_c K ad (zfE N E) cap N G L) H := hZ.mut hF_2 hW9
  refine W.eq (g2 := F0 m 4 ls [.int (nI (64 * zls 6 N (zplan N) + zplan N))]) rfl ?_
  refine lv_bipush (v := nI 64) hx hb dX2_planLoss_4 (by decide) ?_
  refine lv_idiv hx hb dX2_planLoss_6 (by decide) ?_
  refine zz_iret hx hb hr hlocks hS (Nat.le_of_ble_eq_true rfl) (Nat.le_of_ble_eq_true rfl) dX2_planLoss_7 ?_
  refine ⟨?_, ?_⟩
  · skip
    exact congrArg (fun z => some (Value.int z)) (zz_div64 (by omega) (by omega))
  · first | exact hZ.W | (refine zx_co ?_ ?_ ?_ ?_ hZ.W <;> first | rfl | (simp []; done) | (simp_all; done) | (split <;> first | rfl | omega | (simp_all; done); done))
