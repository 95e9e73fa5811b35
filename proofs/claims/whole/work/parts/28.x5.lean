/-! by program (gen.py): contracts of methods -/
theorem zz_bo_nI {P : Prop} [Decidable P] : zz_bo P = nI (if P then 1 else 0) := by unfold zz_bo; split <;> rfl
theorem zgv_t {N : zN} {k i : Nat} (h1 : N 3 i ≠ 0) (h2 : zsit N i 0 < N 1 i) (h3 : zner N k i (zgv N k i)) : zgv N k (i + 1) = i + 1 := by rw [zgv, if_pos ⟨h1, h2, h3⟩]
theorem zgv_f {N : zN} {k i : Nat} (h : ¬ (N 3 i ≠ 0 ∧ zsit N i 0 < N 1 i ∧ zner N k i (zgv N k i))) : zgv N k (i + 1) = zgv N k i := by rw [zgv, if_neg h]
theorem zner_s {N : zN} {k f t z : Nat} (h : t = z + 1) (c : zd f (N 10 k) < zd z (N 10 k) ∨ zd f (N 10 k) = zd z (N 10 k) ∧ zsit N z (N 4 (N 9 k) + 1) < zsit N f (N 4 (N 9 k) + 1)) : zner N k f t := by
  subst h; exact Or.inr c
theorem zner_n {N : zN} {k f t z : Nat} (h : t = z + 1) (c : ¬ (zd f (N 10 k) < zd z (N 10 k) ∨ zd f (N 10 k) = zd z (N 10 k) ∧ zsit N z (N 4 (N 9 k) + 1) < zsit N f (N 4 (N 9 k) + 1))) : ¬ zner N k f t := by
  subst h
  rintro (e | e)
  · omega
  · exact c e
theorem zz_sub0 {a b : Nat} (ha : a < 2 ^ 30) (hb : b < 2 ^ 30) : nI a - nI b = 0 ↔ a = b := by
  rw [← Int32.toInt_inj, pk_sub_toInt ha hb]
  have h0 : (0 : Int32).toInt = 0 := by decide
  rw [h0]; omega
theorem zz_subL {a b : Nat} (ha : a < 2 ^ 30) (hb : b < 2 ^ 30) : nI a - nI b ≤ 0 ↔ a ≤ b := by
  rw [Int32.le_iff_toInt_le, pk_sub_toInt ha hb]
  have h0 : (0 : Int32).toInt = 0 := by decide
  rw [h0]; omega
theorem zsit_0 (N : zN) (f : Nat) : zsit N f 0 = zc (fun q => N 6 q = f + 1) (N 0 1) := zc_c fun k _ => ⟨fun h => h.1, fun h => ⟨h, Or.inl rfl⟩⟩
theorem zjn_j (N : zN) (i : Nat) : zs_j1 (zjn N i) i = zjn N (i + 1) := by
  unfold zs_j1
  rw [zjn_k (show 6 ≠ 5 by decide), zjn_k (show 8 ≠ 5 by decide), zjn_i]
  by_cases h : N 6 i = 0
  · rw [if_pos h, zjn_none h]
  · rw [if_neg h, ← zjn_some h]; rfl
theorem zd_X0_discomfortOfOnePerson : yX0_discomfortOfOnePerson.cls ≠ "java/lang/invoke/MethodHandle" ∧ yX0_discomfortOfOnePerson.cls ≠ "java/lang/invoke/VarHandle" ∧ (parseMethodDescriptor yX0_discomfortOfOnePerson.desc).map (fun d => d.parameters.length) = some 0 := by decide +kernel
theorem zd_X0_followAir : yX0_followAir.cls ≠ "java/lang/invoke/MethodHandle" ∧ yX0_followAir.cls ≠ "java/lang/invoke/VarHandle" ∧ (parseMethodDescriptor yX0_followAir.desc).map (fun d => d.parameters.length) = some 1 := by decide +kernel
theorem zd_X0_followWarmth : yX0_followWarmth.cls ≠ "java/lang/invoke/MethodHandle" ∧ yX0_followWarmth.cls ≠ "java/lang/invoke/VarHandle" ∧ (parseMethodDescriptor yX0_followWarmth.desc).map (fun d => d.parameters.length) = some 1 := by decide +kernel
theorem zd_X1_goHome : yX1_goHome.cls ≠ "java/lang/invoke/MethodHandle" ∧ yX1_goHome.cls ≠ "java/lang/invoke/VarHandle" ∧ (parseMethodDescriptor yX1_goHome.desc).map (fun d => d.parameters.length) = some 0 := by decide +kernel
theorem zd_X1_judge : yX1_judge.cls ≠ "java/lang/invoke/MethodHandle" ∧ yX1_judge.cls ≠ "java/lang/invoke/VarHandle" ∧ (parseMethodDescriptor yX1_judge.desc).map (fun d => d.parameters.length) = some 0 := by decide +kernel
theorem zd_X2_countGuestsOf : yX2_countGuestsOf.cls ≠ "java/lang/invoke/MethodHandle" ∧ yX2_countGuestsOf.cls ≠ "java/lang/invoke/VarHandle" ∧ (parseMethodDescriptor yX2_countGuestsOf.desc).map (fun d => d.parameters.length) = some 1 := by decide +kernel
theorem zd_X2_countPresentOn : yX2_countPresentOn.cls ≠ "java/lang/invoke/MethodHandle" ∧ yX2_countPresentOn.cls ≠ "java/lang/invoke/VarHandle" ∧ (parseMethodDescriptor yX2_countPresentOn.desc).map (fun d => d.parameters.length) = some 1 := by decide +kernel
theorem zd_X2_floorsAreSound : yX2_floorsAreSound.cls ≠ "java/lang/invoke/MethodHandle" ∧ yX2_floorsAreSound.cls ≠ "java/lang/invoke/VarHandle" ∧ (parseMethodDescriptor yX2_floorsAreSound.desc).map (fun d => d.parameters.length) = some 0 := by decide +kernel
theorem zd_X2_giveSeat : yX2_giveSeat.cls ≠ "java/lang/invoke/MethodHandle" ∧ yX2_giveSeat.cls ≠ "java/lang/invoke/VarHandle" ∧ (parseMethodDescriptor yX2_giveSeat.desc).map (fun d => d.parameters.length) = some 1 := by decide +kernel
theorem zd_X2_passHourOn : yX2_passHourOn.cls ≠ "java/lang/invoke/MethodHandle" ∧ yX2_passHourOn.cls ≠ "java/lang/invoke/VarHandle" ∧ (parseMethodDescriptor yX2_passHourOn.desc).map (fun d => d.parameters.length) = some 1 := by decide +kernel
theorem zd_X2_peopleAreSound : yX2_peopleAreSound.cls ≠ "java/lang/invoke/MethodHandle" ∧ yX2_peopleAreSound.cls ≠ "java/lang/invoke/VarHandle" ∧ (parseMethodDescriptor yX2_peopleAreSound.desc).map (fun d => d.parameters.length) = some 0 := by decide +kernel
theorem zd_X2_plan : yX2_plan.cls ≠ "java/lang/invoke/MethodHandle" ∧ yX2_plan.cls ≠ "java/lang/invoke/VarHandle" ∧ (parseMethodDescriptor yX2_plan.desc).map (fun d => d.parameters.length) = some 0 := by decide +kernel
theorem zd_X2_planByTrying : yX2_planByTrying.cls ≠ "java/lang/invoke/MethodHandle" ∧ yX2_planByTrying.cls ≠ "java/lang/invoke/VarHandle" ∧ (parseMethodDescriptor yX2_planByTrying.desc).map (fun d => d.parameters.length) = some 0 := by decide +kernel
theorem zd_X2_suitsBetter : yX2_suitsBetter.cls ≠ "java/lang/invoke/MethodHandle" ∧ yX2_suitsBetter.cls ≠ "java/lang/invoke/VarHandle" ∧ (parseMethodDescriptor yX2_suitsBetter.desc).map (fun d => d.parameters.length) = some 3 := by decide +kernel
set_option maxHeartbeats 4000000 in
set_option maxRecDepth 100000 in
theorem c_X2_judgePeople (l : Launch) {K : zz_G} {A : Nat → Prop} {ad : Nat → Nat → Nat} {E : Nat → Nat → Int32} {cap : Nat → Nat} {N : Nat → Nat → Nat} {G : Nat → Nat → Int32} {L : Nat → Int64} (hI : zq N) (hk : zk K ad cap N)  : zz_C l yX2_judgePeople cX2_judgePeople 2 (Option.none : Option Jvm.ClassFile.FieldType) ({ frames := 3, cells := 0, slots := 0, locals := 64 } : Room) K A [.ref (ad 0 0)] (fun H => zz_W K A ad (zx_c K ad E cap N G L) H) (fun v9 _ H9 => v9 = none ∧ zz_W K A ad (zx_c K ad E cap (zjn N (N 0 1)) G L) H9) zz_nx A := by
  refine zz_body (by decide +kernel) (Nat.le_of_ble_eq_true rfl) ?_
  intro p e s m below meth c ls hx hb hr hml hts hown hlocks hmn htab hE hA hP hl
  have hN := hE.N
  have hK := hE.K
  have hown : s.vm.findClass RX2 = some m.cls := hown
  have hl : lv_has ls 2 [(0, .ref (ad 0 0))] := hl
  have hZ : zz_Z K A s ad (zx_c K ad E cap N G L) s.heap := ⟨hE, hA, hP⟩
  have hS : va_S zz_no s.heap s.heap [] := va_S.rf
  obtain ⟨H, hH⟩ : ∃ z, z = s.heap := ⟨_, rfl⟩
  have hS0 : va_S zz_no s.heap H [] := by rw [hH]; exact hS
  rw [← hH] at hZ
  have hE0 := hE
  clear hS
  have hS := hS0
  have hB := hI.B
  have hbk := hI.bk
  have h00 := hI.f
  have h01 := hI.p
  have h02 := hI.b
  have hk0 := hk 0 (by decide)
  have hk1 := hk 1 (by decide)
  have hk2 := hk 2 (by decide)
  show W p l e _ s m _ below meth c s.heap [] 0 0 _ (F0 m 0 ls [])
  rw [← hH]
  refine zz_con 0 hx hb dX2_judgePeople_0 (by decide) ?_
  refine lv_istore_n (lv' := [(1, .int (nI 0)), (0, .ref (ad 0 0))]) hx hb dX2_judgePeople_1 rfl hl (Nat.le_of_ble_eq_true rfl) rfl (fun ls hl => ?_)
  have hS : va_S A s.heap H _ := zz_Smono hS (fun _ h => h.elim)
  have hL_2 : ∀ (k i : Nat), i ≤ N 0 1 → N 0 1 < i + k → ∀ (H : Heap) (locs : List Loc) (ls : Array Slot), zz_Z K A s ad (zx_c K ad E cap (zjn N i) G L) H → va_S A s.heap H locs → lv_has ls 2 [(1, .int (nI i)), (0, .ref (ad 0 0))] → W p l e ({ frames := 3, cells := 0, slots := 0, locals := 64 } : Room) s m ([.ref (ad 0 0)] : List Value).toArray below meth c H locs 0 0 (vx_MQ below (zz_Qc (fun v9 _ H9 => v9 = none ∧ zz_W K A ad (zx_c K ad E cap (zjn N (N 0 1)) G L) H9) A) (zz_XC zz_nx) ([.ref (ad 0 0)] : List Value).toArray s ({ frames := 3, cells := 0, slots := 0, locals := 64 } : Room).cells ({ frames := 3, cells := 0, slots := 0, locals := 64 } : Room).slots A) (F0 m 2 ls []) := by
    intro k
    induction k with
    | zero => intro i hi hik; omega
    | succ k ih_i =>
      intro i hii hiki H locs ls hZ hS hl
      have hI := zjn_q hI i
      refine lv_iload_n hx hb dX2_judgePeople_2 rfl (lv_at hl 0 rfl) ?_
      refine lv_aload_n hx hb dX2_judgePeople_3 rfl (lv_at hl 1 rfl) ?_
      refine zz_get (ci := 5) (C := RX2) (T := TX2) (N := 8) (v := .ref (ad 1 1)) hx hb hts hown hK (zx_ob hZ.W).1 rfl zf_X2 1 (by decide) zw_60 (fun _ h9 => h9) rfl dX2_judgePeople_4 ?_
      refine zz_after (pc := 7) rfl (zz_runV (ci := 2) (q0 := (RJx4a65c, TJx4a65c, 3)) (b := ad 1 1) (As := []) (rest := [.int (nI i)]) hx hb hml hown hts (c_Jx4a65c_size_8abf5 l (K := K) (A := A) (ad := ad) (E := E) (cap := cap) (N := (zjn N i)) (G := G) (L := L) hk (by decide)) zw_88 zw_89 zw_90 zw_4 zw_91 zd_Jx4a65c_size_8abf5 ⟨Nat.le_of_ble_eq_true rfl, Nat.le_of_ble_eq_true rfl⟩ hZ.E hZ.A (zx_li hZ.W (t := 1) (by decide)).1 rfl rfl hZ.W hl.1 (Nat.le_of_ble_eq_true rfl) dX2_judgePeople_7 ⟨Nat.le_of_ble_eq_true rfl, Nat.le_of_ble_eq_true rfl⟩) hS (fun _ h => h.elim) (fun v_5 H locs hq_3 hF_4 hS => ?_)
      refine W.widen (k := 0) (n := 0) (Nat.le_of_ble_eq_true rfl) (Nat.le_of_ble_eq_true rfl) ?_
      obtain rfl := hq_3
      have hZ := hZ.ro hF_4
      refine W.eq (g2 := F0 m 10 ls [.int (nI (N 0 1)), .int (nI i)]) rfl ?_
      refine zz_ic_ge (tgt := 33) (by first | exact hB _ _ | exact hUa _ | exact hUb _ | exact hUc _ | exact hUd _ | omega) (by first | exact hB _ _ | exact hUa _ | exact hUb _ | exact hUc _ | exact hUd _ | omega) hx hb dX2_judgePeople_10 (by decide) (fun c_6 => ?_) (fun c_6 => ?_)
      · skip
        obtain rfl : i = N 0 1 := by omega
        refine zz_vret hx hb hr hlocks hS (Nat.le_of_ble_eq_true rfl) (Nat.le_of_ble_eq_true rfl) dX2_judgePeople_33 ?_
        refine ⟨?_, ?_⟩
        · skip
          first | rfl | (simp [c_6]; done) | (simp_all; done) | (split <;> first | rfl | omega | (simp_all; done); done)
        · first | exact hZ.W | (refine zx_co ?_ ?_ ?_ ?_ hZ.W <;> first | rfl | (simp [c_6]; done) | (simp_all; done) | (split <;> first | rfl | omega | (simp_all; done); done))
      · skip
        refine lv_aload_n hx hb dX2_judgePeople_13 rfl (lv_at hl 1 rfl) ?_
        refine zz_get (ci := 5) (C := RX2) (T := TX2) (N := 8) (v := .ref (ad 1 1)) hx hb hts hown hK (zx_ob hZ.W).1 rfl zf_X2 1 (by decide) zw_60 (fun _ h9 => h9) rfl dX2_judgePeople_14 ?_
        refine lv_iload_n hx hb dX2_judgePeople_17 rfl (lv_at hl 0 rfl) ?_
        have hj_7 : i < N 0 1 := by omega
        refine zz_after (pc := 18) rfl (zz_runV (ci := 2) (q0 := (RJx4a65c, TJx4a65c, 3)) (b := ad 1 1) (As := [.int (nI i)]) (rest := []) hx hb hml hown hts (c_Jx4a65c_get_915e3 l (K := K) (A := A) (ad := ad) (E := E) (cap := cap) (N := (zjn N i)) (G := G) (L := L) hk (by decide) (j := i) (r := (ad 5 i)) hj_7 (zx_g1 hj_7)) zw_101 zw_102 zw_103 zw_4 zw_104 zd_Jx4a65c_get_915e3 ⟨Nat.le_of_ble_eq_true rfl, Nat.le_of_ble_eq_true rfl⟩ hZ.E hZ.A (zx_li hZ.W (t := 1) (by decide)).1 rfl rfl hZ.W hl.1 (Nat.le_of_ble_eq_true rfl) dX2_judgePeople_18 ⟨Nat.le_of_ble_eq_true rfl, Nat.le_of_ble_eq_true rfl⟩) hS (fun _ h => h.elim) (fun v_10 H locs hq_8 hF_9 hS => ?_)
        refine W.widen (k := 0) (n := 0) (Nat.le_of_ble_eq_true rfl) (Nat.le_of_ble_eq_true rfl) ?_
        obtain rfl := hq_8
        have hZ := hZ.ro hF_9
        refine W.eq (g2 := F0 m 21 ls [.ref (ad 5 i)]) rfl ?_
        refine va_castS hx hb hown (hts _ zw_129) (hK.1 4 _ rfl).2 (zz_rc hK (zx_pe hZ.W (q := i) hj_7).1 rfl) dX2_judgePeople_21 ?_
        refine zz_after (pc := 24) rfl (zz_runV (ci := 4) (q0 := (RX1, TX1, 7)) (b := ad 5 i) (As := []) (rest := []) hx hb hml hown hts (c_X1_judge l (K := K) (A := A) (ad := ad) (E := E) (cap := cap) (N := (zjn N i)) (G := G) (L := L) hI hj_7) zw_624 zw_625 zw_626 zw_21 zw_627 zd_X1_judge ⟨Nat.le_of_ble_eq_true rfl, Nat.le_of_ble_eq_true rfl⟩ hZ.E hZ.A (zx_pe hZ.W (q := i) hj_7).1 rfl rfl hZ.W hl.1 (Nat.le_of_ble_eq_true rfl) dX2_judgePeople_24 ⟨Nat.le_of_ble_eq_true rfl, Nat.le_of_ble_eq_true rfl⟩) hS (fun _ h => h) (fun v_13 H locs hq_11 hF_12 hS => ?_)
        refine W.widen (k := 0) (n := 0) (Nat.le_of_ble_eq_true rfl) (Nat.le_of_ble_eq_true rfl) ?_
        obtain ⟨rfl, hW9⟩ := hq_11
        have hZ : zz_Z K A s ad (zx_c K ad E cap (zs_j1 (zjn N i) i) G L) H := hZ.mut hF_12 hW9
        refine W.eq (g2 := F0 m 27 ls []) rfl ?_
        refine zz_inc (k := 0) (lv' := [(1, .int (nI (i + 1))), (0, .ref (ad 0 0))]) hx hb dX2_judgePeople_27 hl rfl (Nat.le_of_ble_eq_true rfl) rfl (fun ls hl => ?_)
        refine lv_goto (tgt := 2) hx hb dX2_judgePeople_30 (by decide) ?_
        refine ih_i (i + 1) (by omega) (by omega) _ _ _ ?_ hS ?_
        · rw [zjn_j] at hZ; exact hZ
        · skip
          exact lv_sub hl [0, 1] rfl
  refine hL_2 (N 0 1 + 1) 0 (by first | omega | exact Nat.zero_le _) (by first | omega | (rw [Nat.zero_add]; exact Nat.lt_succ_self _)) _ _ _ ?_ hS ?_
  · rw [zjn_0]; exact hZ
  exact lv_sub hl [0, 1] rfl

set_option maxHeartbeats 4000000 in
set_option maxRecDepth 100000 in
theorem c_X2_sendPeopleHome (l : Launch) {K : zz_G} {A : Nat → Prop} {ad : Nat → Nat → Nat} {E : Nat → Nat → Int32} {cap : Nat → Nat} {N : Nat → Nat → Nat} {G : Nat → Nat → Int32} {L : Nat → Int64} (hI : zq N) (hk : zk K ad cap N)  : zz_C l yX2_sendPeopleHome cX2_sendPeopleHome 2 (Option.none : Option Jvm.ClassFile.FieldType) ({ frames := 3, cells := 0, slots := 0, locals := 64 } : Room) K A [.ref (ad 0 0)] (fun H => zz_W K A ad (zx_c K ad E cap N G L) H) (fun v9 _ H9 => v9 = none ∧ zz_W K A ad (zx_c K ad E cap (zho N (N 0 1)) G L) H9) zz_nx A := by
  refine zz_body (by decide +kernel) (Nat.le_of_ble_eq_true rfl) ?_
  intro p e s m below meth c ls hx hb hr hml hts hown hlocks hmn htab hE hA hP hl
  have hN := hE.N
  have hK := hE.K
  have hown : s.vm.findClass RX2 = some m.cls := hown
  have hl : lv_has ls 2 [(0, .ref (ad 0 0))] := hl
  have hZ : zz_Z K A s ad (zx_c K ad E cap N G L) s.heap := ⟨hE, hA, hP⟩
  have hS : va_S zz_no s.heap s.heap [] := va_S.rf
  obtain ⟨H, hH⟩ : ∃ z, z = s.heap := ⟨_, rfl⟩
  have hS0 : va_S zz_no s.heap H [] := by rw [hH]; exact hS
  rw [← hH] at hZ
  have hE0 := hE
  clear hS
  have hS := hS0
  have hB := hI.B
  have hbk := hI.bk
  have h00 := hI.f
  have h01 := hI.p
  have h02 := hI.b
  have hk0 := hk 0 (by decide)
  have hk1 := hk 1 (by decide)
  have hk2 := hk 2 (by decide)
  show W p l e _ s m _ below meth c s.heap [] 0 0 _ (F0 m 0 ls [])
  rw [← hH]
  refine zz_con 0 hx hb dX2_sendPeopleHome_0 (by decide) ?_
  refine lv_istore_n (lv' := [(1, .int (nI 0)), (0, .ref (ad 0 0))]) hx hb dX2_sendPeopleHome_1 rfl hl (Nat.le_of_ble_eq_true rfl) rfl (fun ls hl => ?_)
  have hS : va_S A s.heap H _ := zz_Smono hS (fun _ h => h.elim)
  have hL_2 : ∀ (k i : Nat), i ≤ N 0 1 → N 0 1 < i + k → ∀ (H : Heap) (locs : List Loc) (ls : Array Slot), zz_Z K A s ad (zx_c K ad E cap (zho N i) G L) H → va_S A s.heap H locs → lv_has ls 2 [(1, .int (nI i)), (0, .ref (ad 0 0))] → W p l e ({ frames := 3, cells := 0, slots := 0, locals := 64 } : Room) s m ([.ref (ad 0 0)] : List Value).toArray below meth c H locs 0 0 (vx_MQ below (zz_Qc (fun v9 _ H9 => v9 = none ∧ zz_W K A ad (zx_c K ad E cap (zho N (N 0 1)) G L) H9) A) (zz_XC zz_nx) ([.ref (ad 0 0)] : List Value).toArray s ({ frames := 3, cells := 0, slots := 0, locals := 64 } : Room).cells ({ frames := 3, cells := 0, slots := 0, locals := 64 } : Room).slots A) (F0 m 2 ls []) := by
    intro k
    induction k with
    | zero => intro i hi hik; omega
    | succ k ih_i =>
      intro i hii hiki H locs ls hZ hS hl
      have hI := zho_q hI i
      refine lv_iload_n hx hb dX2_sendPeopleHome_2 rfl (lv_at hl 0 rfl) ?_
      refine lv_aload_n hx hb dX2_sendPeopleHome_3 rfl (lv_at hl 1 rfl) ?_
      refine zz_get (ci := 5) (C := RX2) (T := TX2) (N := 8) (v := .ref (ad 1 1)) hx hb hts hown hK (zx_ob hZ.W).1 rfl zf_X2 1 (by decide) zw_60 (fun _ h9 => h9) rfl dX2_sendPeopleHome_4 ?_
      refine zz_after (pc := 7) rfl (zz_runV (ci := 2) (q0 := (RJx4a65c, TJx4a65c, 3)) (b := ad 1 1) (As := []) (rest := [.int (nI i)]) hx hb hml hown hts (c_Jx4a65c_size_8abf5 l (K := K) (A := A) (ad := ad) (E := E) (cap := cap) (N := (zho N i)) (G := G) (L := L) hk (by decide)) zw_88 zw_89 zw_90 zw_4 zw_91 zd_Jx4a65c_size_8abf5 ⟨Nat.le_of_ble_eq_true rfl, Nat.le_of_ble_eq_true rfl⟩ hZ.E hZ.A (zx_li hZ.W (t := 1) (by decide)).1 rfl rfl hZ.W hl.1 (Nat.le_of_ble_eq_true rfl) dX2_sendPeopleHome_7 ⟨Nat.le_of_ble_eq_true rfl, Nat.le_of_ble_eq_true rfl⟩) hS (fun _ h => h.elim) (fun v_5 H locs hq_3 hF_4 hS => ?_)
      refine W.widen (k := 0) (n := 0) (Nat.le_of_ble_eq_true rfl) (Nat.le_of_ble_eq_true rfl) ?_
      obtain rfl := hq_3
      have hZ := hZ.ro hF_4
      refine W.eq (g2 := F0 m 10 ls [.int (nI (N 0 1)), .int (nI i)]) rfl ?_
      refine zz_ic_ge (tgt := 33) (by first | exact hB _ _ | exact hUa _ | exact hUb _ | exact hUc _ | exact hUd _ | omega) (by first | exact hB _ _ | exact hUa _ | exact hUb _ | exact hUc _ | exact hUd _ | omega) hx hb dX2_sendPeopleHome_10 (by decide) (fun c_6 => ?_) (fun c_6 => ?_)
      · skip
        obtain rfl : i = N 0 1 := by omega
        refine zz_vret hx hb hr hlocks hS (Nat.le_of_ble_eq_true rfl) (Nat.le_of_ble_eq_true rfl) dX2_sendPeopleHome_33 ?_
        refine ⟨?_, ?_⟩
        · skip
          first | rfl | (simp [c_6]; done) | (simp_all; done) | (split <;> first | rfl | omega | (simp_all; done); done)
        · first | exact hZ.W | (refine zx_co ?_ ?_ ?_ ?_ hZ.W <;> first | rfl | (simp [c_6]; done) | (simp_all; done) | (split <;> first | rfl | omega | (simp_all; done); done))
      · skip
        refine lv_aload_n hx hb dX2_sendPeopleHome_13 rfl (lv_at hl 1 rfl) ?_
        refine zz_get (ci := 5) (C := RX2) (T := TX2) (N := 8) (v := .ref (ad 1 1)) hx hb hts hown hK (zx_ob hZ.W).1 rfl zf_X2 1 (by decide) zw_60 (fun _ h9 => h9) rfl dX2_sendPeopleHome_14 ?_
        refine lv_iload_n hx hb dX2_sendPeopleHome_17 rfl (lv_at hl 0 rfl) ?_
        have hj_7 : i < N 0 1 := by omega
        refine zz_after (pc := 18) rfl (zz_runV (ci := 2) (q0 := (RJx4a65c, TJx4a65c, 3)) (b := ad 1 1) (As := [.int (nI i)]) (rest := []) hx hb hml hown hts (c_Jx4a65c_get_915e3 l (K := K) (A := A) (ad := ad) (E := E) (cap := cap) (N := (zho N i)) (G := G) (L := L) hk (by decide) (j := i) (r := (ad 5 i)) hj_7 (zx_g1 hj_7)) zw_101 zw_102 zw_103 zw_4 zw_104 zd_Jx4a65c_get_915e3 ⟨Nat.le_of_ble_eq_true rfl, Nat.le_of_ble_eq_true rfl⟩ hZ.E hZ.A (zx_li hZ.W (t := 1) (by decide)).1 rfl rfl hZ.W hl.1 (Nat.le_of_ble_eq_true rfl) dX2_sendPeopleHome_18 ⟨Nat.le_of_ble_eq_true rfl, Nat.le_of_ble_eq_true rfl⟩) hS (fun _ h => h.elim) (fun v_10 H locs hq_8 hF_9 hS => ?_)
        refine W.widen (k := 0) (n := 0) (Nat.le_of_ble_eq_true rfl) (Nat.le_of_ble_eq_true rfl) ?_
        obtain rfl := hq_8
        have hZ := hZ.ro hF_9
        refine W.eq (g2 := F0 m 21 ls [.ref (ad 5 i)]) rfl ?_
        refine va_castS hx hb hown (hts _ zw_129) (hK.1 4 _ rfl).2 (zz_rc hK (zx_pe hZ.W (q := i) hj_7).1 rfl) dX2_sendPeopleHome_21 ?_
        refine zz_after (pc := 24) rfl (zz_runV (ci := 4) (q0 := (RX1, TX1, 7)) (b := ad 5 i) (As := []) (rest := []) hx hb hml hown hts (c_X1_goHome l (K := K) (A := A) (ad := ad) (E := E) (cap := cap) (N := (zho N i)) (G := G) (L := L) hI hj_7) zw_642 zw_643 zw_644 zw_21 zw_645 zd_X1_goHome ⟨Nat.le_of_ble_eq_true rfl, Nat.le_of_ble_eq_true rfl⟩ hZ.E hZ.A (zx_pe hZ.W (q := i) hj_7).1 rfl rfl hZ.W hl.1 (Nat.le_of_ble_eq_true rfl) dX2_sendPeopleHome_24 ⟨Nat.le_of_ble_eq_true rfl, Nat.le_of_ble_eq_true rfl⟩) hS (fun _ h => h) (fun v_13 H locs hq_11 hF_12 hS => ?_)
        refine W.widen (k := 0) (n := 0) (Nat.le_of_ble_eq_true rfl) (Nat.le_of_ble_eq_true rfl) ?_
        obtain ⟨rfl, hW9⟩ := hq_11
        have hZ : zz_Z K A s ad (zx_c K ad E cap (zu (zu (zu (zho N i) 6 i 0) 7 i 0) 8 i 0) G L) H := hZ.mut hF_12 hW9
        refine W.eq (g2 := F0 m 27 ls []) rfl ?_
        refine zz_inc (k := 0) (lv' := [(1, .int (nI (i + 1))), (0, .ref (ad 0 0))]) hx hb dX2_sendPeopleHome_27 hl rfl (Nat.le_of_ble_eq_true rfl) rfl (fun ls hl => ?_)
        refine lv_goto (tgt := 2) hx hb dX2_sendPeopleHome_30 (by decide) ?_
        refine ih_i (i + 1) (by omega) (by omega) _ _ _ ?_ hS ?_
        · rw [zho_s] at hZ; exact hZ
        · skip
          exact lv_sub hl [0, 1] rfl
  refine hL_2 (N 0 1 + 1) 0 (by first | omega | exact Nat.zero_le _) (by first | omega | (rw [Nat.zero_add]; exact Nat.lt_succ_self _)) _ _ _ ?_ hS ?_
  · rw [zho_0]; exact hZ
  exact lv_sub hl [0, 1] rfl

set_option maxHeartbeats 4000000 in
set_option maxRecDepth 100000 in
theorem c_X2_openFloorsOf (l : Launch) {K : zz_G} {A : Nat → Prop} {ad : Nat → Nat → Nat} {E : Nat → Nat → Int32} {cap : Nat → Nat} {N : Nat → Nat → Nat} {G : Nat → Nat → Int32} {L : Nat → Int64} (hI : zq N) (hk : zk K ad cap N) {S : Nat} (hSb : S < 2 ^ 31) : zz_C l yX2_openFloorsOf cX2_openFloorsOf 4 (Option.none : Option Jvm.ClassFile.FieldType) ({ frames := 3, cells := 0, slots := 0, locals := 64 } : Room) K A [.ref (ad 0 0), .int (nI S)] (fun H => zz_W K A ad (zx_c K ad E cap N G L) H) (fun v9 _ H9 => v9 = none ∧ zz_W K A ad (zx_c K ad E cap (zso N S (N 0 0)) G L) H9) zz_nx A := by
  refine zz_body (by decide +kernel) (Nat.le_of_ble_eq_true rfl) ?_
  intro p e s m below meth c ls hx hb hr hml hts hown hlocks hmn htab hE hA hP hl
  have hN := hE.N
  have hK := hE.K
  have hown : s.vm.findClass RX2 = some m.cls := hown
  have hl : lv_has ls 4 [(0, .ref (ad 0 0)), (1, .int (nI S))] := hl
  have hZ : zz_Z K A s ad (zx_c K ad E cap N G L) s.heap := ⟨hE, hA, hP⟩
  have hS : va_S zz_no s.heap s.heap [] := va_S.rf
  obtain ⟨H, hH⟩ : ∃ z, z = s.heap := ⟨_, rfl⟩
  have hS0 : va_S zz_no s.heap H [] := by rw [hH]; exact hS
  rw [← hH] at hZ
  have hE0 := hE
  clear hS
  have hS := hS0
  have hB := hI.B
  have hbk := hI.bk
  have h00 := hI.f
  have h01 := hI.p
  have h02 := hI.b
  have hk0 := hk 0 (by decide)
  have hk1 := hk 1 (by decide)
  have hk2 := hk 2 (by decide)
  show W p l e _ s m _ below meth c s.heap [] 0 0 _ (F0 m 0 ls [])
  rw [← hH]
  refine zz_con 0 hx hb dX2_openFloorsOf_0 (by decide) ?_
  refine lv_istore_n (lv' := [(2, .int (nI 0)), (0, .ref (ad 0 0)), (1, .int (nI S))]) hx hb dX2_openFloorsOf_1 rfl hl (Nat.le_of_ble_eq_true rfl) rfl (fun ls hl => ?_)
  have hS : va_S A s.heap H _ := zz_Smono hS (fun _ h => h.elim)
  have hL_2 : ∀ (k i : Nat), i ≤ N 0 0 → N 0 0 < i + k → ∀ (H : Heap) (locs : List Loc) (ls : Array Slot), zz_Z K A s ad (zx_c K ad E cap (zso N S i) G L) H → va_S A s.heap H locs → lv_has ls 4 [(2, .int (nI i)), (0, .ref (ad 0 0)), (1, .int (nI S))] → W p l e ({ frames := 3, cells := 0, slots := 0, locals := 64 } : Room) s m ([.ref (ad 0 0), .int (nI S)] : List Value).toArray below meth c H locs 0 0 (vx_MQ below (zz_Qc (fun v9 _ H9 => v9 = none ∧ zz_W K A ad (zx_c K ad E cap (zso N S (N 0 0)) G L) H9) A) (zz_XC zz_nx) ([.ref (ad 0 0), .int (nI S)] : List Value).toArray s ({ frames := 3, cells := 0, slots := 0, locals := 64 } : Room).cells ({ frames := 3, cells := 0, slots := 0, locals := 64 } : Room).slots A) (F0 m 2 ls []) := by
    intro k
    induction k with
    | zero => intro i hi hik; omega
    | succ k ih_i =>
      intro i hii hiki H locs ls hZ hS hl
      have hI := zso_q hI S i
      refine lv_iload_n hx hb dX2_openFloorsOf_2 rfl (lv_at hl 0 rfl) ?_
      refine lv_aload_n hx hb dX2_openFloorsOf_3 rfl (lv_at hl 1 rfl) ?_
      refine zz_get (ci := 5) (C := RX2) (T := TX2) (N := 8) (v := .ref (ad 1 0)) hx hb hts hown hK (zx_ob hZ.W).1 rfl zf_X2 0 (by decide) zw_59 (fun _ h9 => h9) rfl dX2_openFloorsOf_4 ?_
      refine zz_after (pc := 7) rfl (zz_runV (ci := 2) (q0 := (RJx4a65c, TJx4a65c, 3)) (b := ad 1 0) (As := []) (rest := [.int (nI i)]) hx hb hml hown hts (c_Jx4a65c_size_8abf5 l (K := K) (A := A) (ad := ad) (E := E) (cap := cap) (N := (zso N S i)) (G := G) (L := L) hk (by decide)) zw_88 zw_89 zw_90 zw_4 zw_91 zd_Jx4a65c_size_8abf5 ⟨Nat.le_of_ble_eq_true rfl, Nat.le_of_ble_eq_true rfl⟩ hZ.E hZ.A (zx_li hZ.W (t := 0) (by decide)).1 rfl rfl hZ.W hl.1 (Nat.le_of_ble_eq_true rfl) dX2_openFloorsOf_7 ⟨Nat.le_of_ble_eq_true rfl, Nat.le_of_ble_eq_true rfl⟩) hS (fun _ h => h.elim) (fun v_5 H locs hq_3 hF_4 hS => ?_)
      refine W.widen (k := 0) (n := 0) (Nat.le_of_ble_eq_true rfl) (Nat.le_of_ble_eq_true rfl) ?_
      obtain rfl := hq_3
      have hZ := hZ.ro hF_4
      refine W.eq (g2 := F0 m 10 ls [.int (nI (N 0 0)), .int (nI i)]) rfl ?_
      refine zz_ic_ge (tgt := 40) (by first | exact hB _ _ | exact hUa _ | exact hUb _ | exact hUc _ | exact hUd _ | omega) (by first | exact hB _ _ | exact hUa _ | exact hUb _ | exact hUc _ | exact hUd _ | omega) hx hb dX2_openFloorsOf_10 (by decide) (fun c_6 => ?_) (fun c_6 => ?_)
      · skip
        obtain rfl : i = N 0 0 := by omega
        refine zz_vret hx hb hr hlocks hS (Nat.le_of_ble_eq_true rfl) (Nat.le_of_ble_eq_true rfl) dX2_openFloorsOf_40 ?_
        refine ⟨?_, ?_⟩
        · skip
          first | rfl | (simp [c_6]; done) | (simp_all; done) | (split <;> first | rfl | omega | (simp_all; done); done)
        · first | exact hZ.W | (refine zx_co ?_ ?_ ?_ ?_ hZ.W <;> first | rfl | (simp [c_6]; done) | (simp_all; done) | (split <;> first | rfl | omega | (simp_all; done); done))
      · skip
        refine lv_aload_n hx hb dX2_openFloorsOf_13 rfl (lv_at hl 1 rfl) ?_
        refine zz_get (ci := 5) (C := RX2) (T := TX2) (N := 8) (v := .ref (ad 1 0)) hx hb hts hown hK (zx_ob hZ.W).1 rfl zf_X2 0 (by decide) zw_59 (fun _ h9 => h9) rfl dX2_openFloorsOf_14 ?_
        refine lv_iload_n hx hb dX2_openFloorsOf_17 rfl (lv_at hl 0 rfl) ?_
        have hj_7 : i < N 0 0 := by omega
        refine zz_after (pc := 18) rfl (zz_runV (ci := 2) (q0 := (RJx4a65c, TJx4a65c, 3)) (b := ad 1 0) (As := [.int (nI i)]) (rest := []) hx hb hml hown hts (c_Jx4a65c_get_915e3 l (K := K) (A := A) (ad := ad) (E := E) (cap := cap) (N := (zso N S i)) (G := G) (L := L) hk (by decide) (j := i) (r := (ad 3 i)) hj_7 (zx_g0 hj_7)) zw_101 zw_102 zw_103 zw_4 zw_104 zd_Jx4a65c_get_915e3 ⟨Nat.le_of_ble_eq_true rfl, Nat.le_of_ble_eq_true rfl⟩ hZ.E hZ.A (zx_li hZ.W (t := 0) (by decide)).1 rfl rfl hZ.W hl.1 (Nat.le_of_ble_eq_true rfl) dX2_openFloorsOf_18 ⟨Nat.le_of_ble_eq_true rfl, Nat.le_of_ble_eq_true rfl⟩) hS (fun _ h => h.elim) (fun v_10 H locs hq_8 hF_9 hS => ?_)
        refine W.widen (k := 0) (n := 0) (Nat.le_of_ble_eq_true rfl) (Nat.le_of_ble_eq_true rfl) ?_
        obtain rfl := hq_8
        have hZ := hZ.ro hF_9
        refine W.eq (g2 := F0 m 21 ls [.ref (ad 3 i)]) rfl ?_
        refine va_castS hx hb hown (hts _ zw_115) (hK.1 3 _ rfl).2 (zz_rc hK (zx_fl hZ.W (f := i) hj_7).1 rfl) dX2_openFloorsOf_21 ?_
        refine lv_astore_n (lv' := [(3, .ref (ad 3 i)), (2, .int (nI i)), (0, .ref (ad 0 0)), (1, .int (nI S))]) hx hb dX2_openFloorsOf_24 rfl hl (Nat.le_of_ble_eq_true rfl) rfl (fun ls hl => ?_)
        refine lv_aload_n hx hb dX2_openFloorsOf_25 rfl (lv_at hl 0 rfl) ?_
        refine lv_aload_n hx hb dX2_openFloorsOf_26 rfl (lv_at hl 0 rfl) ?_
        refine lv_iload_n hx hb dX2_openFloorsOf_27 rfl (lv_at hl 3 rfl) ?_
        refine zz_after (pc := 28) rfl (zz_runV (ci := 3) (q0 := (RX0, TX0, 7)) (b := ad 3 i) (As := [.int (nI S)]) (rest := [.ref (ad 3 i)]) hx hb hml hown hts (c_X0_isPartOf l (K := K) (A := A) (ad := ad) (E := E) (cap := cap) (N := (zso N S i)) (G := G) (L := L) hI hj_7 (by first | exact hB _ _ | exact hUa _ | exact hUb _ | exact hUc _ | exact hUd _ | omega)) zw_165 zw_166 zw_167 zw_11 zw_168 zd_X0_isPartOf ⟨Nat.le_of_ble_eq_true rfl, Nat.le_of_ble_eq_true rfl⟩ hZ.E hZ.A (zx_fl hZ.W (f := i) hj_7).1 rfl rfl hZ.W hl.1 (Nat.le_of_ble_eq_true rfl) dX2_openFloorsOf_28 ⟨Nat.le_of_ble_eq_true rfl, Nat.le_of_ble_eq_true rfl⟩) hS (fun _ h => h.elim) (fun v_13 H locs hq_11 hF_12 hS => ?_)
        refine W.widen (k := 0) (n := 0) (Nat.le_of_ble_eq_true rfl) (Nat.le_of_ble_eq_true rfl) ?_
        obtain rfl := hq_11
        have hZ := hZ.ro hF_12
        refine W.eq (g2 := F0 m 31 ls [.int (zz_bo (Nat.testBit S i = true)), .ref (ad 3 i)]) rfl ?_
        have haA_17 := (zx_fl hZ.W (f := i) hj_7).2
        refine zz_putN (ci := 3) (C := RX0) (T := TX0) (N := 7) (v := .int (zz_bo (Nat.testBit S i = true))) (ty1 := .boolean) hx hb hts hN hown hK hS (zx_fl hZ.W (f := i) hj_7).1 haA_17 rfl zf_X0 tyX0_ok nmX0 3 (by decide) zn_340 (fun _ h9 => h9) rfl (by decide +kernel) (by rcases (zz_bo_01 (P := Nat.testBit S i = true)) with h | h <;> rw [h] <;> rfl) (by rcases (zz_bo_01 (P := Nat.testBit S i = true)) with h | h <;> rw [h] <;> rfl) (Nat.le_of_ble_eq_true rfl) dX2_openFloorsOf_31 (fun H locs ha_15 hz_16 ho_14 hS => ?_)
        rw [zz_bo_nI] at ha_15
        have hZ : zz_Z K A s ad (zx_c K ad E cap (zu (zso N S i) 3 i (if Nat.testBit S i = true then 1 else 0)) G L) H := hZ.put haA_17 hz_16 ho_14 (zx_put_open hZ.W hj_7 ha_15 ho_14)
        refine zz_inc (k := 1) (lv' := [(2, .int (nI (i + 1))), (3, .ref (ad 3 i)), (0, .ref (ad 0 0)), (1, .int (nI S))]) hx hb dX2_openFloorsOf_34 hl rfl (Nat.le_of_ble_eq_true rfl) rfl (fun ls hl => ?_)
        refine lv_goto (tgt := 2) hx hb dX2_openFloorsOf_37 (by decide) ?_
        refine ih_i (i + 1) (by omega) (by omega) _ _ _ ?_ hS ?_
        · rw [zso_s] at hZ; exact hZ
        · skip
          exact lv_sub hl [0, 2, 3] rfl
  refine hL_2 (N 0 0 + 1) 0 (by first | omega | exact Nat.zero_le _) (by first | omega | (rw [Nat.zero_add]; exact Nat.lt_succ_self _)) _ _ _ ?_ hS ?_
  · rw [zso_0]; exact hZ
  exact lv_sub hl [0, 1, 2] rfl

set_option maxHeartbeats 4000000 in
set_option maxRecDepth 100000 in
theorem c_X2_cleanOpenFloors (l : Launch) {K : zz_G} {A : Nat → Prop} {ad : Nat → Nat → Nat} {E : Nat → Nat → Int32} {cap : Nat → Nat} {N : Nat → Nat → Nat} {G : Nat → Nat → Int32} {L : Nat → Int64} (hI : zq N) (hk : zk K ad cap N)  : zz_C l yX2_cleanOpenFloors cX2_cleanOpenFloors 3 (Option.none : Option Jvm.ClassFile.FieldType) ({ frames := 4, cells := 0, slots := 0, locals := 88 } : Room) K A [.ref (ad 0 0)] (fun H => zz_W K A ad (zx_c K ad E cap N G L) H) (fun v9 _ H9 => v9 = none ∧ zz_W K A ad (zx_c K ad E cap N G (zl L 2 (zcl N (L 2) (N 0 0)))) H9) zz_nx A := by
  refine zz_body (by decide +kernel) (Nat.le_of_ble_eq_true rfl) ?_
  intro p e s m below meth c ls hx hb hr hml hts hown hlocks hmn htab hE hA hP hl
  have hN := hE.N
  have hK := hE.K
  have hown : s.vm.findClass RX2 = some m.cls := hown
  have hl : lv_has ls 3 [(0, .ref (ad 0 0))] := hl
  have hZ : zz_Z K A s ad (zx_c K ad E cap N G L) s.heap := ⟨hE, hA, hP⟩
  have hS : va_S zz_no s.heap s.heap [] := va_S.rf
  obtain ⟨H, hH⟩ : ∃ z, z = s.heap := ⟨_, rfl⟩
  have hS0 : va_S zz_no s.heap H [] := by rw [hH]; exact hS
  rw [← hH] at hZ
  have hE0 := hE
  clear hS
  have hS := hS0
  have hB := hI.B
  have hbk := hI.bk
  have h00 := hI.f
  have h01 := hI.p
  have h02 := hI.b
  have hk0 := hk 0 (by decide)
  have hk1 := hk 1 (by decide)
  have hk2 := hk 2 (by decide)
  show W p l e _ s m _ below meth c s.heap [] 0 0 _ (F0 m 0 ls [])
  rw [← hH]
  refine zz_con 0 hx hb dX2_cleanOpenFloors_0 (by decide) ?_
  refine lv_istore_n (lv' := [(1, .int (nI 0)), (0, .ref (ad 0 0))]) hx hb dX2_cleanOpenFloors_1 rfl hl (Nat.le_of_ble_eq_true rfl) rfl (fun ls hl => ?_)
  have hS : va_S A s.heap H _ := zz_Smono hS (fun _ h => h.elim)
  have hL_2 : ∀ (k i : Nat), i ≤ N 0 0 → N 0 0 < i + k → ∀ (H : Heap) (locs : List Loc) (ls : Array Slot), zz_Z K A s ad (zx_c K ad E cap N G (zl L 2 (zcl N (L 2) i))) H → va_S A s.heap H locs → lv_has ls 3 [(1, .int (nI i)), (0, .ref (ad 0 0))] → W p l e ({ frames := 4, cells := 0, slots := 0, locals := 88 } : Room) s m ([.ref (ad 0 0)] : List Value).toArray below meth c H locs 0 0 (vx_MQ below (zz_Qc (fun v9 _ H9 => v9 = none ∧ zz_W K A ad (zx_c K ad E cap N G (zl L 2 (zcl N (L 2) (N 0 0)))) H9) A) (zz_XC zz_nx) ([.ref (ad 0 0)] : List Value).toArray s ({ frames := 4, cells := 0, slots := 0, locals := 88 } : Room).cells ({ frames := 4, cells := 0, slots := 0, locals := 88 } : Room).slots A) (F0 m 2 ls []) := by
    intro k
    induction k with
    | zero => intro i hi hik; omega
    | succ k ih_i =>
      intro i hii hiki H locs ls hZ hS hl
      have hgb : zgc N i ≤ 12 := Nat.le_trans (zc_le _ _) h01
      refine lv_iload_n hx hb dX2_cleanOpenFloors_2 rfl (lv_at hl 0 rfl) ?_
      refine lv_aload_n hx hb dX2_cleanOpenFloors_3 rfl (lv_at hl 1 rfl) ?_
      refine zz_get (ci := 5) (C := RX2) (T := TX2) (N := 8) (v := .ref (ad 1 0)) hx hb hts hown hK (zx_ob hZ.W).1 rfl zf_X2 0 (by decide) zw_59 (fun _ h9 => h9) rfl dX2_cleanOpenFloors_4 ?_
      refine zz_after (pc := 7) rfl (zz_runV (ci := 2) (q0 := (RJx4a65c, TJx4a65c, 3)) (b := ad 1 0) (As := []) (rest := [.int (nI i)]) hx hb hml hown hts (c_Jx4a65c_size_8abf5 l (K := K) (A := A) (ad := ad) (E := E) (cap := cap) (N := N) (G := G) (L := (zl L 2 (zcl N (L 2) i))) hk (by decide)) zw_88 zw_89 zw_90 zw_4 zw_91 zd_Jx4a65c_size_8abf5 ⟨Nat.le_of_ble_eq_true rfl, Nat.le_of_ble_eq_true rfl⟩ hZ.E hZ.A (zx_li hZ.W (t := 0) (by decide)).1 rfl rfl hZ.W hl.1 (Nat.le_of_ble_eq_true rfl) dX2_cleanOpenFloors_7 ⟨Nat.le_of_ble_eq_true rfl, Nat.le_of_ble_eq_true rfl⟩) hS (fun _ h => h.elim) (fun v_5 H locs hq_3 hF_4 hS => ?_)
      refine W.widen (k := 0) (n := 0) (Nat.le_of_ble_eq_true rfl) (Nat.le_of_ble_eq_true rfl) ?_
      obtain rfl := hq_3
      have hZ := hZ.ro hF_4
      refine W.eq (g2 := F0 m 10 ls [.int (nI (N 0 0)), .int (nI i)]) rfl ?_
      refine zz_ic_ge (tgt := 58) (by first | exact hB _ _ | exact hUa _ | exact hUb _ | exact hUc _ | exact hUd _ | omega) (by first | exact hB _ _ | exact hUa _ | exact hUb _ | exact hUc _ | exact hUd _ | omega) hx hb dX2_cleanOpenFloors_10 (by decide) (fun c_6 => ?_) (fun c_6 => ?_)
      · skip
        obtain rfl : i = N 0 0 := by omega
        refine zz_vret hx hb hr hlocks hS (Nat.le_of_ble_eq_true rfl) (Nat.le_of_ble_eq_true rfl) dX2_cleanOpenFloors_58 ?_
        refine ⟨?_, ?_⟩
        · skip
          first | rfl | (simp [c_6]; done) | (simp_all; done) | (split <;> first | rfl | omega | (simp_all; done); done)
        · first | exact hZ.W | (refine zx_co ?_ ?_ ?_ ?_ hZ.W <;> first | rfl | (simp [c_6]; done) | (simp_all; done) | (split <;> first | rfl | omega | (simp_all; done); done))
      · skip
        refine lv_aload_n hx hb dX2_cleanOpenFloors_13 rfl (lv_at hl 1 rfl) ?_
        refine zz_get (ci := 5) (C := RX2) (T := TX2) (N := 8) (v := .ref (ad 1 0)) hx hb hts hown hK (zx_ob hZ.W).1 rfl zf_X2 0 (by decide) zw_59 (fun _ h9 => h9) rfl dX2_cleanOpenFloors_14 ?_
        refine lv_iload_n hx hb dX2_cleanOpenFloors_17 rfl (lv_at hl 0 rfl) ?_
        have hj_7 : i < N 0 0 := by omega
        refine zz_after (pc := 18) rfl (zz_runV (ci := 2) (q0 := (RJx4a65c, TJx4a65c, 3)) (b := ad 1 0) (As := [.int (nI i)]) (rest := []) hx hb hml hown hts (c_Jx4a65c_get_915e3 l (K := K) (A := A) (ad := ad) (E := E) (cap := cap) (N := N) (G := G) (L := (zl L 2 (zcl N (L 2) i))) hk (by decide) (j := i) (r := (ad 3 i)) hj_7 (zx_g0 hj_7)) zw_101 zw_102 zw_103 zw_4 zw_104 zd_Jx4a65c_get_915e3 ⟨Nat.le_of_ble_eq_true rfl, Nat.le_of_ble_eq_true rfl⟩ hZ.E hZ.A (zx_li hZ.W (t := 0) (by decide)).1 rfl rfl hZ.W hl.1 (Nat.le_of_ble_eq_true rfl) dX2_cleanOpenFloors_18 ⟨Nat.le_of_ble_eq_true rfl, Nat.le_of_ble_eq_true rfl⟩) hS (fun _ h => h.elim) (fun v_10 H locs hq_8 hF_9 hS => ?_)
        refine W.widen (k := 0) (n := 0) (Nat.le_of_ble_eq_true rfl) (Nat.le_of_ble_eq_true rfl) ?_
        obtain rfl := hq_8
        have hZ := hZ.ro hF_9
        refine W.eq (g2 := F0 m 21 ls [.ref (ad 3 i)]) rfl ?_
        refine va_castS hx hb hown (hts _ zw_115) (hK.1 3 _ rfl).2 (zz_rc hK (zx_fl hZ.W (f := i) hj_7).1 rfl) dX2_cleanOpenFloors_21 ?_
        refine lv_astore_n (lv' := [(2, .ref (ad 3 i)), (1, .int (nI i)), (0, .ref (ad 0 0))]) hx hb dX2_cleanOpenFloors_24 rfl hl (Nat.le_of_ble_eq_true rfl) rfl (fun ls hl => ?_)
        refine lv_aload_n hx hb dX2_cleanOpenFloors_25 rfl (lv_at hl 0 rfl) ?_
        refine zz_getN (ci := 3) (C := RX0) (T := TX0) (N := 7) (v := .int (nI (N 3 i))) hx hb hts hN hown hK (zx_fl hZ.W (f := i) hj_7).1 rfl zf_X0 3 (by decide) zn_340 (fun _ h9 => h9) rfl dX2_cleanOpenFloors_26 ?_
        refine zz_if_eq (tgt := 52) (by first | exact hB _ _ | exact hUa _ | exact hUb _ | exact hUc _ | exact hUd _ | omega) hx hb dX2_cleanOpenFloors_29 (by decide) (fun c_11 => ?_) (fun c_11 => ?_)
        · skip
          refine zz_inc (k := 1) (lv' := [(1, .int (nI (i + 1))), (2, .ref (ad 3 i)), (0, .ref (ad 0 0))]) hx hb dX2_cleanOpenFloors_52 hl rfl (Nat.le_of_ble_eq_true rfl) rfl (fun ls hl => ?_)
          refine lv_goto (tgt := 2) hx hb dX2_cleanOpenFloors_55 (by decide) ?_
          refine ih_i (i + 1) (by omega) (by omega) _ _ _ ?_ hS ?_
          · first | (rw [zcl, if_pos (by assumption)]; exact hZ) | (rw [zcl, if_neg (by assumption)]; rw [zl_zl, nI_l (by omega)] at hZ; exact hZ)
          · skip
            exact lv_sub hl [0, 2] rfl
        · skip
          refine lv_aload_n hx hb dX2_cleanOpenFloors_32 rfl (lv_at hl 2 rfl) ?_
          refine lv_dup hx hb dX2_cleanOpenFloors_33 rfl ?_
          refine zz_get (ci := 5) (C := RX2) (T := TX2) (N := 8) (v := .long (zcl N (L 2) i)) hx hb hts hown hK (zx_ob hZ.W).1 rfl zf_X2 7 (by decide) zw_66 (fun _ h9 => h9) rfl dX2_cleanOpenFloors_34 ?_
          refine lv_bipush (v := nI 10) hx hb dX2_cleanOpenFloors_37 (by decide) ?_
          refine zz_con 5 hx hb dX2_cleanOpenFloors_39 (by decide) ?_
          refine lv_aload_n hx hb dX2_cleanOpenFloors_40 rfl (lv_at hl 2 rfl) ?_
          refine lv_aload_n hx hb dX2_cleanOpenFloors_41 rfl (lv_at hl 0 rfl) ?_
          refine zz_after (pc := 42) rfl (zz_runV (ci := 5) (q0 := (RX2, TX2, 8)) (b := ad 0 0) (As := [.ref (ad 3 i)]) (rest := [.int (nI 5), .int (nI 10), .long (zcl N (L 2) i), .ref (ad 0 0)]) hx hb hml hown hts (c_X2_countGuestsOf l (K := K) (A := A) (ad := ad) (E := E) (cap := cap) (N := N) (G := G) (L := (zl L 2 (zcl N (L 2) i))) hI hk hj_7) zw_634 zw_636 zs_23 zw_1 zw_637 zd_X2_countGuestsOf ⟨Nat.le_of_ble_eq_true rfl, Nat.le_of_ble_eq_true rfl⟩ hZ.E hZ.A (zx_ob hZ.W).1 rfl rfl hZ.W hl.1 (Nat.le_of_ble_eq_true rfl) dX2_cleanOpenFloors_42 ⟨Nat.le_of_ble_eq_true rfl, Nat.le_of_ble_eq_true rfl⟩) hS (fun _ h => h.elim) (fun v_14 H locs hq_12 hF_13 hS => ?_)
          refine W.widen (k := 0) (n := 0) (Nat.le_of_ble_eq_true rfl) (Nat.le_of_ble_eq_true rfl) ?_
          obtain rfl := hq_12
          have hZ := hZ.ro hF_13
          refine W.eq (g2 := F0 m 45 ls [.int (nI (zgc N i)), .int (nI 5), .int (nI 10), .long (zcl N (L 2) i), .ref (ad 0 0)]) rfl ?_
          refine zz_mul hx hb dX2_cleanOpenFloors_45 ?_
          refine zz_add hx hb dX2_cleanOpenFloors_46 ?_
          refine lv_i2l hx hb dX2_cleanOpenFloors_47 rfl ?_
          refine lv_ladd hx hb dX2_cleanOpenFloors_48 ?_
          have haA_18 := (zx_ob hZ.W).2
          refine zz_put (ci := 5) (C := RX2) (T := TX2) (N := 8) (v := .long ((zcl N (L 2) i) + (Int32.toInt64 (nI (10 + (5 * (zgc N i))))))) (ty1 := .long) hx hb hts hown hK hS (zx_ob hZ.W).1 haA_18 rfl zf_X2 tyX2_ok nmX2 7 (by decide) zw_66 (fun _ h9 => h9) rfl (by decide +kernel) rfl rfl (Nat.le_of_ble_eq_true rfl) dX2_cleanOpenFloors_49 (fun H locs ha_16 hz_17 ho_15 hS => ?_)
          have hZ : zz_Z K A s ad (zx_c K ad E cap N G (zl (zl L 2 (zcl N (L 2) i)) 2 ((zcl N (L 2) i) + (Int32.toInt64 (nI (10 + (5 * (zgc N i)))))))) H := hZ.put haA_18 hz_17 ho_15 (zx_put_cleaning hZ.W ha_16 ho_15)
          refine zz_inc (k := 1) (lv' := [(1, .int (nI (i + 1))), (2, .ref (ad 3 i)), (0, .ref (ad 0 0))]) hx hb dX2_cleanOpenFloors_52 hl rfl (Nat.le_of_ble_eq_true rfl) rfl (fun ls hl => ?_)
          refine lv_goto (tgt := 2) hx hb dX2_cleanOpenFloors_55 (by decide) ?_
          refine ih_i (i + 1) (by omega) (by omega) _ _ _ ?_ hS ?_
          · first | (rw [zcl, if_pos (by assumption)]; exact hZ) | (rw [zcl, if_neg (by assumption)]; rw [zl_zl, nI_l (by omega)] at hZ; exact hZ)
          · skip
            exact lv_sub hl [0, 2] rfl
  refine hL_2 (N 0 0 + 1) 0 (by first | omega | exact Nat.zero_le _) (by first | omega | (rw [Nat.zero_add]; exact Nat.lt_succ_self _)) _ _ _ ?_ hS ?_
  · rw [zcl, zl_id]; exact hZ
  exact lv_sub hl [0, 1] rfl

set_option maxHeartbeats 4000000 in
set_option maxRecDepth 100000 in
theorem c_X2_suitsBetter (l : Launch) {K : zz_G} {A : Nat → Prop} {ad : Nat → Nat → Nat} {E : Nat → Nat → Int32} {cap : Nat → Nat} {N : Nat → Nat → Nat} {G : Nat → Nat → Int32} {L : Nat → Int64} (hI : zq N) (hk : zk K ad cap N) {q f g w : Nat} (hq : q < N 0 1) (hf : f < N 0 0) (hg : g < N 0 0) (hw : N 11 q = w + 1) : zz_C l yX2_suitsBetter cX2_suitsBetter 6 (Option.some FieldType.boolean) ({ frames := 4, cells := 0, slots := 0, locals := 89 } : Room) K A [.ref (ad 0 0), .ref (ad 5 q), .ref (ad 3 f), .ref (ad 3 g)] (fun H => zz_W K A ad (zx_c K ad E cap N G L) H) (fun v9 _ _ => v9 = some (.int (zz_bo (zd f w < zd g w ∨ zd f w = zd g w ∧ zsit N g (N 4 q + 1) < zsit N f (N 4 q + 1))))) zz_nx zz_no := by
  refine zz_body (by decide +kernel) (Nat.le_of_ble_eq_true rfl) ?_
  intro p e s m below meth c ls hx hb hr hml hts hown hlocks hmn htab hE hA hP hl
  have hN := hE.N
  have hK := hE.K
  have hown : s.vm.findClass RX2 = some m.cls := hown
  have hl : lv_has ls 6 [(0, .ref (ad 0 0)), (1, .ref (ad 5 q)), (2, .ref (ad 3 f)), (3, .ref (ad 3 g))] := hl
  have hZ : zz_Z K A s ad (zx_c K ad E cap N G L) s.heap := ⟨hE, hA, hP⟩
  have hS : va_S zz_no s.heap s.heap [] := va_S.rf
  obtain ⟨H, hH⟩ : ∃ z, z = s.heap := ⟨_, rfl⟩
  have hS0 : va_S zz_no s.heap H [] := by rw [hH]; exact hS
  rw [← hH] at hZ
  have hE0 := hE
  clear hS
  have hS := hS0
  have hB := hI.B
  have hbk := hI.bk
  have h00 := hI.f
  have h01 := hI.p
  have h02 := hI.b
  have hk0 := hk 0 (by decide)
  have hk1 := hk 1 (by decide)
  have hk2 := hk 2 (by decide)
  have hwt := hI.wt q hq
  have hd1 := zd_comm w f
  have hd2 := zd_comm w g
  have hs1 := zsit_b hI f (N 4 q + 1)
  have hs2 := zsit_b hI g (N 4 q + 1)
  have hz1 : zd w f < 100 := by (unfold zd; split <;> omega)
  have hz2 : zd w g < 100 := by (unfold zd; split <;> omega)
  have h4 := (hI.sm q).2.2.2.2
  show W p l e _ s m _ below meth c s.heap [] 0 0 _ (F0 m 0 ls [])
  rw [← hH]
  refine lv_aload_n hx hb dX2_suitsBetter_0 rfl (lv_at hl 1 rfl) ?_
  rcases (show N 11 q = 0 ∨ ∃ z, N 11 q = z + 1 by cases (N 11 q) with | zero => exact Or.inl rfl | succ z => exact Or.inr ⟨z, rfl⟩) with h_1 | ⟨j_2, h_1⟩
  · skip
    refine zz_getN (ci := 4) (C := RX1) (T := TX1) (N := 7) (v := .null) hx hb hts hN hown hK (zx_pe hZ.W (q := q) hq).1 rfl zf_X1 3 (by decide) zn_491 (fun _ h9 => h9) (congrArg (fun x => some (zz_rf (ad 3) x)) h_1) dX2_suitsBetter_1 ?_
    omega
  · skip
    have hj_3 : j_2 < N 0 0 := by have := hI.wt q hq; omega
    refine zz_getN (ci := 4) (C := RX1) (T := TX1) (N := 7) (v := .ref (ad 3 j_2)) hx hb hts hN hown hK (zx_pe hZ.W (q := q) hq).1 rfl zf_X1 3 (by decide) zn_491 (fun _ h9 => h9) (congrArg (fun x => some (zz_rf (ad 3) x)) h_1) dX2_suitsBetter_1 ?_
    obtain rfl : j_2 = w := by omega
    refine lv_astore (lv' := [(4, .ref (ad 3 j_2)), (0, .ref (ad 0 0)), (1, .ref (ad 5 q)), (2, .ref (ad 3 f)), (3, .ref (ad 3 g))]) hx hb dX2_suitsBetter_4 hl (Nat.le_of_ble_eq_true rfl) rfl (fun ls hl => ?_)
    refine lv_aload hx hb dX2_suitsBetter_6 (lv_at hl 0 rfl) ?_
    refine lv_ifnonnull (tgt := 13) hx hb dX2_suitsBetter_8 (by decide) ?_
    refine lv_aload hx hb dX2_suitsBetter_13 (lv_at hl 0 rfl) ?_
    refine lv_aload_n hx hb dX2_suitsBetter_15 rfl (lv_at hl 4 rfl) ?_
    refine zz_after (pc := 16) rfl (zz_runV (ci := 3) (q0 := (RX0, TX0, 7)) (b := ad 3 j_2) (As := [.ref (ad 3 g)]) (rest := []) hx hb hml hown hts (c_X0_distanceTo l (K := K) (A := A) (ad := ad) (E := E) (cap := cap) (N := N) (G := G) (L := L) hI hj_3 hg) zw_178 zw_179 zw_180 zw_11 zw_181 zd_X0_distanceTo ⟨Nat.le_of_ble_eq_true rfl, Nat.le_of_ble_eq_true rfl⟩ hZ.E hZ.A (zx_fl hZ.W (f := j_2) hj_3).1 rfl rfl hZ.W hl.1 (Nat.le_of_ble_eq_true rfl) dX2_suitsBetter_16 ⟨Nat.le_of_ble_eq_true rfl, Nat.le_of_ble_eq_true rfl⟩) hS (fun _ h => h.elim) (fun v_6 H locs hq_4 hF_5 hS => ?_)
    refine W.widen (k := 0) (n := 0) (Nat.le_of_ble_eq_true rfl) (Nat.le_of_ble_eq_true rfl) ?_
    obtain rfl := hq_4
    have hZ := hZ.ro hF_5
    refine W.eq (g2 := F0 m 19 ls [.int (nI (zd j_2 g))]) rfl ?_
    refine lv_aload hx hb dX2_suitsBetter_19 (lv_at hl 0 rfl) ?_
    refine lv_aload_n hx hb dX2_suitsBetter_21 rfl (lv_at hl 3 rfl) ?_
    refine zz_after (pc := 22) rfl (zz_runV (ci := 3) (q0 := (RX0, TX0, 7)) (b := ad 3 j_2) (As := [.ref (ad 3 f)]) (rest := [.int (nI (zd j_2 g))]) hx hb hml hown hts (c_X0_distanceTo l (K := K) (A := A) (ad := ad) (E := E) (cap := cap) (N := N) (G := G) (L := L) hI hj_3 hf) zw_178 zw_179 zw_180 zw_11 zw_181 zd_X0_distanceTo ⟨Nat.le_of_ble_eq_true rfl, Nat.le_of_ble_eq_true rfl⟩ hZ.E hZ.A (zx_fl hZ.W (f := j_2) hj_3).1 rfl rfl hZ.W hl.1 (Nat.le_of_ble_eq_true rfl) dX2_suitsBetter_22 ⟨Nat.le_of_ble_eq_true rfl, Nat.le_of_ble_eq_true rfl⟩) hS (fun _ h => h.elim) (fun v_9 H locs hq_7 hF_8 hS => ?_)
    refine W.widen (k := 0) (n := 0) (Nat.le_of_ble_eq_true rfl) (Nat.le_of_ble_eq_true rfl) ?_
    obtain rfl := hq_7
    have hZ := hZ.ro hF_8
    refine W.eq (g2 := F0 m 25 ls [.int (nI (zd j_2 f)), .int (nI (zd j_2 g))]) rfl ?_
    refine lv_isub hx hb dX2_suitsBetter_25 ?_
    refine lv_istore (lv' := [(5, .int ((nI (zd j_2 g)) - (nI (zd j_2 f)))), (4, .ref (ad 3 j_2)), (0, .ref (ad 0 0)), (1, .ref (ad 5 q)), (2, .ref (ad 3 f)), (3, .ref (ad 3 g))]) hx hb dX2_suitsBetter_26 hl (Nat.le_of_ble_eq_true rfl) rfl (fun ls hl => ?_)
    refine lv_iload hx hb dX2_suitsBetter_28 (lv_at hl 0 rfl) ?_
    refine lv_if_eq (tgt := 44) hx hb dX2_suitsBetter_30 (by decide) (fun c_10 => ?_) (fun c_10 => ?_)
    · skip
      have hx1 := (zz_sub0 (by omega) (by omega)).mp c_10
      refine lv_aload_n hx hb dX2_suitsBetter_44 rfl (lv_at hl 2 rfl) ?_
      refine lv_aload_n hx hb dX2_suitsBetter_45 rfl (lv_at hl 3 rfl) ?_
      refine zz_getN (ci := 4) (C := RX1) (T := TX1) (N := 7) (v := .int (nI (N 4 q))) hx hb hts hN hown hK (zx_pe hZ.W (q := q) hq).1 rfl zf_X1 1 (by decide) zn_487 (fun _ h9 => h9) rfl dX2_suitsBetter_46 ?_
      refine lv_aload_n hx hb dX2_suitsBetter_49 rfl (lv_at hl 4 rfl) ?_
      refine zz_after (pc := 50) rfl (zz_runV (ci := 5) (q0 := (RX2, TX2, 8)) (b := ad 0 0) (As := [.int (nI (N 4 q)), .ref (ad 3 f)]) (rest := []) hx hb hml hown hts (c_X2_countTeamOn l (K := K) (A := A) (ad := ad) (E := E) (cap := cap) (N := N) (G := G) (L := L) hI hk (by omega) hf) zw_662 zw_664 zs_29 zw_1 zw_665 zd_X2_countTeamOn ⟨Nat.le_of_ble_eq_true rfl, Nat.le_of_ble_eq_true rfl⟩ hZ.E hZ.A (zx_ob hZ.W).1 rfl rfl hZ.W hl.1 (Nat.le_of_ble_eq_true rfl) dX2_suitsBetter_50 ⟨Nat.le_of_ble_eq_true rfl, Nat.le_of_ble_eq_true rfl⟩) hS (fun _ h => h.elim) (fun v_13 H locs hq_11 hF_12 hS => ?_)
      refine W.widen (k := 0) (n := 0) (Nat.le_of_ble_eq_true rfl) (Nat.le_of_ble_eq_true rfl) ?_
      obtain rfl := hq_11
      have hZ := hZ.ro hF_12
      refine W.eq (g2 := F0 m 53 ls [.int (nI (zsit N f ((N 4 q) + 1)))]) rfl ?_
      refine lv_aload_n hx hb dX2_suitsBetter_53 rfl (lv_at hl 2 rfl) ?_
      refine lv_aload_n hx hb dX2_suitsBetter_54 rfl (lv_at hl 3 rfl) ?_
      refine zz_getN (ci := 4) (C := RX1) (T := TX1) (N := 7) (v := .int (nI (N 4 q))) hx hb hts hN hown hK (zx_pe hZ.W (q := q) hq).1 rfl zf_X1 1 (by decide) zn_487 (fun _ h9 => h9) rfl dX2_suitsBetter_55 ?_
      refine lv_aload_n hx hb dX2_suitsBetter_58 rfl (lv_at hl 5 rfl) ?_
      refine zz_after (pc := 59) rfl (zz_runV (ci := 5) (q0 := (RX2, TX2, 8)) (b := ad 0 0) (As := [.int (nI (N 4 q)), .ref (ad 3 g)]) (rest := [.int (nI (zsit N f ((N 4 q) + 1)))]) hx hb hml hown hts (c_X2_countTeamOn l (K := K) (A := A) (ad := ad) (E := E) (cap := cap) (N := N) (G := G) (L := L) hI hk (by omega) hg) zw_662 zw_664 zs_29 zw_1 zw_665 zd_X2_countTeamOn ⟨Nat.le_of_ble_eq_true rfl, Nat.le_of_ble_eq_true rfl⟩ hZ.E hZ.A (zx_ob hZ.W).1 rfl rfl hZ.W hl.1 (Nat.le_of_ble_eq_true rfl) dX2_suitsBetter_59 ⟨Nat.le_of_ble_eq_true rfl, Nat.le_of_ble_eq_true rfl⟩) hS (fun _ h => h.elim) (fun v_16 H locs hq_14 hF_15 hS => ?_)
      refine W.widen (k := 0) (n := 0) (Nat.le_of_ble_eq_true rfl) (Nat.le_of_ble_eq_true rfl) ?_
      obtain rfl := hq_14
      have hZ := hZ.ro hF_15
      refine W.eq (g2 := F0 m 62 ls [.int (nI (zsit N g ((N 4 q) + 1))), .int (nI (zsit N f ((N 4 q) + 1)))]) rfl ?_
      refine zz_ic_le (tgt := 69) (by first | exact hB _ _ | exact hUa _ | exact hUb _ | exact hUc _ | exact hUd _ | omega) (by first | exact hB _ _ | exact hUa _ | exact hUb _ | exact hUc _ | exact hUd _ | omega) hx hb dX2_suitsBetter_62 (by decide) (fun c_17 => ?_) (fun c_17 => ?_)
      · skip
        refine zz_con 0 hx hb dX2_suitsBetter_69 (by decide) ?_
        refine zz_zret hx hb hr hlocks hS (Nat.le_of_ble_eq_true rfl) (Nat.le_of_ble_eq_true rfl) dX2_suitsBetter_70 (show nI 0 = 0 ∨ nI 0 = 1 by decide) ?_
        refine congrArg (fun z => some (Value.int z)) (zz_bo_f ?_).symm
        first | assumption | omega | (omega; done) | ((intro h; omega); done) | (simp [h_1, c_10, c_17]; done) | (simp_all; done) | (split <;> first | rfl | omega | (simp_all; done); done)
      · skip
        refine zz_con 1 hx hb dX2_suitsBetter_65 (by decide) ?_
        refine lv_goto (tgt := 70) hx hb dX2_suitsBetter_66 (by decide) ?_
        refine zz_zret hx hb hr hlocks hS (Nat.le_of_ble_eq_true rfl) (Nat.le_of_ble_eq_true rfl) dX2_suitsBetter_70 (show nI 1 = 0 ∨ nI 1 = 1 by decide) ?_
        refine congrArg (fun z => some (Value.int z)) (zz_bo_t ?_).symm
        first | assumption | omega | (omega; done) | ((intro h; omega); done) | (simp [h_1, c_10, c_17]; done) | (simp_all; done) | (split <;> first | rfl | omega | (simp_all; done); done)
    · skip
      have hx1 : ¬ (zd j_2 g = zd j_2 f) := fun z => c_10 ((zz_sub0 (by omega) (by omega)).mpr z)
      refine lv_iload hx hb dX2_suitsBetter_33 (lv_at hl 0 rfl) ?_
      refine lv_if_le (tgt := 42) hx hb dX2_suitsBetter_35 (by decide) (fun c_18 => ?_) (fun c_18 => ?_)
      · skip
        have hx2 := (zz_subL (by omega) (by omega)).mp c_18
        refine zz_con 0 hx hb dX2_suitsBetter_42 (by decide) ?_
        refine zz_zret hx hb hr hlocks hS (Nat.le_of_ble_eq_true rfl) (Nat.le_of_ble_eq_true rfl) dX2_suitsBetter_43 (show nI 0 = 0 ∨ nI 0 = 1 by decide) ?_
        refine congrArg (fun z => some (Value.int z)) (zz_bo_f ?_).symm
        first | assumption | omega | (omega; done) | ((intro h; omega); done) | (simp [h_1, c_10, c_18]; done) | (simp_all; done) | (split <;> first | rfl | omega | (simp_all; done); done)
      · skip
        have hx2 : ¬ (zd j_2 g ≤ zd j_2 f) := fun z => c_18 ((zz_subL (by omega) (by omega)).mpr z)
        refine zz_con 1 hx hb dX2_suitsBetter_38 (by decide) ?_
        refine lv_goto (tgt := 43) hx hb dX2_suitsBetter_39 (by decide) ?_
        refine zz_zret hx hb hr hlocks hS (Nat.le_of_ble_eq_true rfl) (Nat.le_of_ble_eq_true rfl) dX2_suitsBetter_43 (show nI 1 = 0 ∨ nI 1 = 1 by decide) ?_
        refine congrArg (fun z => some (Value.int z)) (zz_bo_t ?_).symm
        first | assumption | omega | (omega; done) | ((intro h; omega); done) | (simp [h_1, c_10, c_18]; done) | (simp_all; done) | (split <;> first | rfl | omega | (simp_all; done); done)

set_option maxHeartbeats 4000000 in
set_option maxRecDepth 100000 in
theorem c_X2_giveSeat (l : Launch) {K : zz_G} {A : Nat → Prop} {ad : Nat → Nat → Nat} {E : Nat → Nat → Int32} {cap : Nat → Nat} {N : Nat → Nat → Nat} {G : Nat → Nat → Int32} {L : Nat → Int64} (hI : zq N) (hk : zk K ad cap N) {v : Nat} (hv : v < N 0 2) : zz_C l yX2_giveSeat cX2_giveSeat 6 (Option.none : Option Jvm.ClassFile.FieldType) ({ frames := 5, cells := 0, slots := 0, locals := 114 } : Room) K A [.ref (ad 0 0), .ref (ad 5 (N 9 v))] (fun H => zz_W K A ad (zx_c K ad E cap N G L) H) (fun v9 _ H9 => v9 = none ∧ zz_W K A ad (zx_c K ad E cap (zu N 6 (N 9 v) (zgv N v (N 0 0))) G L) H9) zz_nx A := by
  refine zz_body (by decide +kernel) (Nat.le_of_ble_eq_true rfl) ?_
  intro p e s m below meth c ls hx hb hr hml hts hown hlocks hmn htab hE hA hP hl
  have hN := hE.N
  have hK := hE.K
  have hown : s.vm.findClass RX2 = some m.cls := hown
  have hl : lv_has ls 6 [(0, .ref (ad 0 0)), (1, .ref (ad 5 (N 9 v)))] := hl
  have hZ : zz_Z K A s ad (zx_c K ad E cap N G L) s.heap := ⟨hE, hA, hP⟩
  have hS : va_S zz_no s.heap s.heap [] := va_S.rf
  obtain ⟨H, hH⟩ : ∃ z, z = s.heap := ⟨_, rfl⟩
  have hS0 : va_S zz_no s.heap H [] := by rw [hH]; exact hS
  rw [← hH] at hZ
  have hE0 := hE
  clear hS
  have hS := hS0
  have hB := hI.B
  have hbk := hI.bk
  have h00 := hI.f
  have h01 := hI.p
  have h02 := hI.b
  have hk0 := hk 0 (by decide)
  have hk1 := hk 1 (by decide)
  have hk2 := hk 2 (by decide)
  have hs0 : ∀ z, zsit N z 0 ≤ 12 := fun z => zsit_b hI z 0
  show W p l e _ s m _ below meth c s.heap [] 0 0 _ (F0 m 0 ls [])
  rw [← hH]
  refine lv_null hx hb dX2_giveSeat_0 ?_
  refine lv_astore_nN (lv' := [(2, .null), (0, .ref (ad 0 0)), (1, .ref (ad 5 (N 9 v)))]) hx hb dX2_giveSeat_1 rfl hl (Nat.le_of_ble_eq_true rfl) rfl (fun ls hl => ?_)
  refine zz_con 0 hx hb dX2_giveSeat_2 (by decide) ?_
  refine lv_istore_n (lv' := [(3, .int (nI 0)), (2, .null), (0, .ref (ad 0 0)), (1, .ref (ad 5 (N 9 v)))]) hx hb dX2_giveSeat_3 rfl hl (Nat.le_of_ble_eq_true rfl) rfl (fun ls hl => ?_)
  have hL_2 : ∀ (k i : Nat), i ≤ N 0 0 → N 0 0 < i + k → ∀ (H : Heap) (locs : List Loc) (ls : Array Slot), zz_Z K A s ad (zx_c K ad E cap N G L) H → va_S zz_no s.heap H locs → lv_has ls 6 [(3, .int (nI i)), (2, va_rf (zz_ro (ad 3) (zgv N v i))), (0, .ref (ad 0 0)), (1, .ref (ad 5 (N 9 v)))] → W p l e ({ frames := 5, cells := 0, slots := 0, locals := 114 } : Room) s m ([.ref (ad 0 0), .ref (ad 5 (N 9 v))] : List Value).toArray below meth c H locs 0 0 (vx_MQ below (zz_Qc (fun v9 _ H9 => v9 = none ∧ zz_W K A ad (zx_c K ad E cap (zu N 6 (N 9 v) (zgv N v (N 0 0))) G L) H9) A) (zz_XC zz_nx) ([.ref (ad 0 0), .ref (ad 5 (N 9 v))] : List Value).toArray s ({ frames := 5, cells := 0, slots := 0, locals := 114 } : Room).cells ({ frames := 5, cells := 0, slots := 0, locals := 114 } : Room).slots A) (F0 m 4 ls []) := by
    intro k
    induction k with
    | zero => intro i hi hik; omega
    | succ k ih_i =>
      intro i hii hiki H locs ls hZ hS hl
      have hsi := hs0 i
      have hgl := zgv_le N v i
      refine lv_iload_n hx hb dX2_giveSeat_4 rfl (lv_at hl 0 rfl) ?_
      refine lv_aload_n hx hb dX2_giveSeat_5 rfl (lv_at hl 2 rfl) ?_
      refine zz_get (ci := 5) (C := RX2) (T := TX2) (N := 8) (v := .ref (ad 1 0)) hx hb hts hown hK (zx_ob hZ.W).1 rfl zf_X2 0 (by decide) zw_59 (fun _ h9 => h9) rfl dX2_giveSeat_6 ?_
      refine zz_after (pc := 9) rfl (zz_runV (ci := 2) (q0 := (RJx4a65c, TJx4a65c, 3)) (b := ad 1 0) (As := []) (rest := [.int (nI i)]) hx hb hml hown hts (c_Jx4a65c_size_8abf5 l (K := K) (A := A) (ad := ad) (E := E) (cap := cap) (N := N) (G := G) (L := L) hk (by decide)) zw_88 zw_89 zw_90 zw_4 zw_91 zd_Jx4a65c_size_8abf5 ⟨Nat.le_of_ble_eq_true rfl, Nat.le_of_ble_eq_true rfl⟩ hZ.E hZ.A (zx_li hZ.W (t := 0) (by decide)).1 rfl rfl hZ.W hl.1 (Nat.le_of_ble_eq_true rfl) dX2_giveSeat_9 ⟨Nat.le_of_ble_eq_true rfl, Nat.le_of_ble_eq_true rfl⟩) hS (fun _ h => h.elim) (fun v_5 H locs hq_3 hF_4 hS => ?_)
      refine W.widen (k := 0) (n := 0) (Nat.le_of_ble_eq_true rfl) (Nat.le_of_ble_eq_true rfl) ?_
      obtain rfl := hq_3
      have hZ := hZ.ro hF_4
      refine W.eq (g2 := F0 m 12 ls [.int (nI (N 0 0)), .int (nI i)]) rfl ?_
      refine zz_ic_ge (tgt := 86) (by first | exact hB _ _ | exact hUa _ | exact hUb _ | exact hUc _ | exact hUd _ | omega) (by first | exact hB _ _ | exact hUa _ | exact hUb _ | exact hUc _ | exact hUd _ | omega) hx hb dX2_giveSeat_12 (by decide) (fun c_6 => ?_) (fun c_6 => ?_)
      · skip
        obtain rfl : i = N 0 0 := by omega
        rcases (show zgv N v (N 0 0) = 0 ∨ ∃ z, zgv N v (N 0 0) = z + 1 by cases (zgv N v (N 0 0)) with | zero => exact Or.inl rfl | succ z => exact Or.inr ⟨z, rfl⟩) with hs_7 | ⟨z_8, hs_7⟩
        · skip
          rw [hs_7] at hl
          have hl : lv_has ls 6 [(3, .int (nI (N 0 0))), (2, .null), (0, .ref (ad 0 0)), (1, .ref (ad 5 (N 9 v)))] := hl
          refine lv_aload_n hx hb dX2_giveSeat_86 rfl (lv_at hl 3 rfl) ?_
          refine lv_aload_nN hx hb dX2_giveSeat_87 rfl (lv_at hl 1 rfl) ?_
          have hS : va_S A s.heap H _ := zz_Smono hS (fun _ h => h.elim)
          have haA_13 := (zx_pe hZ.W (q := N 9 v) (hI.bk v hv)).2
          refine zz_putN (ci := 4) (C := RX1) (T := TX1) (N := 7) (v := .null) (ty1 := .object "OpenFloors$Floor") hx hb hts hN hown hK hS (zx_pe hZ.W (q := N 9 v) (hI.bk v hv)).1 haA_13 rfl zf_X1 tyX1_ok nmX1 4 (by decide) zn_493 (fun _ h9 => h9) rfl (by decide +kernel) rfl rfl (Nat.le_of_ble_eq_true rfl) dX2_giveSeat_88 (fun H locs ha_11 hz_12 ho_10 hS => ?_)
          have hZ : zz_Z K A s ad (zx_c K ad E cap (zu N 6 (N 9 v) 0) G L) H := hZ.put haA_13 hz_12 ho_10 (zx_put_seat hZ.W (hI.bk v hv) ha_11 ho_10)
          refine zz_vret hx hb hr hlocks hS (Nat.le_of_ble_eq_true rfl) (Nat.le_of_ble_eq_true rfl) dX2_giveSeat_91 ?_
          refine ⟨rfl, ?_⟩
          rw [hs_7]; exact hZ.W
        · skip
          have hz_9 : z_8 < N 0 0 := by have := zgv_le N v (N 0 0); omega
          rw [hs_7] at hl
          have hl : lv_has ls 6 [(3, .int (nI (N 0 0))), (2, .ref (ad 3 z_8)), (0, .ref (ad 0 0)), (1, .ref (ad 5 (N 9 v)))] := hl
          refine lv_aload_n hx hb dX2_giveSeat_86 rfl (lv_at hl 3 rfl) ?_
          refine lv_aload_n hx hb dX2_giveSeat_87 rfl (lv_at hl 1 rfl) ?_
          have hS : va_S A s.heap H _ := zz_Smono hS (fun _ h => h.elim)
          have haA_17 := (zx_pe hZ.W (q := N 9 v) (hI.bk v hv)).2
          refine zz_putN (ci := 4) (C := RX1) (T := TX1) (N := 7) (v := .ref (ad 3 z_8)) (ty1 := .object "OpenFloors$Floor") hx hb hts hN hown hK hS (zx_pe hZ.W (q := N 9 v) (hI.bk v hv)).1 haA_17 rfl zf_X1 tyX1_ok nmX1 4 (by decide) zn_493 (fun _ h9 => h9) rfl (by decide +kernel) rfl rfl (Nat.le_of_ble_eq_true rfl) dX2_giveSeat_88 (fun H locs ha_15 hz_16 ho_14 hS => ?_)
          have hZ : zz_Z K A s ad (zx_c K ad E cap (zu N 6 (N 9 v) (z_8 + 1)) G L) H := hZ.put haA_17 hz_16 ho_14 (zx_put_seat hZ.W (hI.bk v hv) ha_15 ho_14)
          refine zz_vret hx hb hr hlocks hS (Nat.le_of_ble_eq_true rfl) (Nat.le_of_ble_eq_true rfl) dX2_giveSeat_91 ?_
          refine ⟨rfl, ?_⟩
          rw [hs_7]; exact hZ.W
      · skip
        rcases (show zgv N v i = 0 ∨ ∃ z, zgv N v i = z + 1 by cases (zgv N v i) with | zero => exact Or.inl rfl | succ z => exact Or.inr ⟨z, rfl⟩) with hs_18 | ⟨z_19, hs_18⟩
        · skip
          rw [hs_18] at hl
          have hl : lv_has ls 6 [(3, .int (nI i)), (2, .null), (0, .ref (ad 0 0)), (1, .ref (ad 5 (N 9 v)))] := hl
          refine lv_aload_n hx hb dX2_giveSeat_15 rfl (lv_at hl 2 rfl) ?_
          refine zz_get (ci := 5) (C := RX2) (T := TX2) (N := 8) (v := .ref (ad 1 0)) hx hb hts hown hK (zx_ob hZ.W).1 rfl zf_X2 0 (by decide) zw_59 (fun _ h9 => h9) rfl dX2_giveSeat_16 ?_
          refine lv_iload_n hx hb dX2_giveSeat_19 rfl (lv_at hl 0 rfl) ?_
          have hj_21 : i < N 0 0 := by omega
          refine zz_after (pc := 20) rfl (zz_runV (ci := 2) (q0 := (RJx4a65c, TJx4a65c, 3)) (b := ad 1 0) (As := [.int (nI i)]) (rest := []) hx hb hml hown hts (c_Jx4a65c_get_915e3 l (K := K) (A := A) (ad := ad) (E := E) (cap := cap) (N := N) (G := G) (L := L) hk (by decide) (j := i) (r := (ad 3 i)) hj_21 (zx_g0 hj_21)) zw_101 zw_102 zw_103 zw_4 zw_104 zd_Jx4a65c_get_915e3 ⟨Nat.le_of_ble_eq_true rfl, Nat.le_of_ble_eq_true rfl⟩ hZ.E hZ.A (zx_li hZ.W (t := 0) (by decide)).1 rfl rfl hZ.W hl.1 (Nat.le_of_ble_eq_true rfl) dX2_giveSeat_20 ⟨Nat.le_of_ble_eq_true rfl, Nat.le_of_ble_eq_true rfl⟩) hS (fun _ h => h.elim) (fun v_24 H locs hq_22 hF_23 hS => ?_)
          refine W.widen (k := 0) (n := 0) (Nat.le_of_ble_eq_true rfl) (Nat.le_of_ble_eq_true rfl) ?_
          obtain rfl := hq_22
          have hZ := hZ.ro hF_23
          refine W.eq (g2 := F0 m 23 ls [.ref (ad 3 i)]) rfl ?_
          refine va_castS hx hb hown (hts _ zw_115) (hK.1 3 _ rfl).2 (zz_rc hK (zx_fl hZ.W (f := i) hj_21).1 rfl) dX2_giveSeat_23 ?_
          refine lv_astore (lv' := [(4, .ref (ad 3 i)), (3, .int (nI i)), (2, .null), (0, .ref (ad 0 0)), (1, .ref (ad 5 (N 9 v)))]) hx hb dX2_giveSeat_26 hl (Nat.le_of_ble_eq_true rfl) rfl (fun ls hl => ?_)
          refine lv_aload hx hb dX2_giveSeat_28 (lv_at hl 0 rfl) ?_
          refine zz_getN (ci := 3) (C := RX0) (T := TX0) (N := 7) (v := .int (nI (N 3 i))) hx hb hts hN hown hK (zx_fl hZ.W (f := i) hj_21).1 rfl zf_X0 3 (by decide) zn_340 (fun _ h9 => h9) rfl dX2_giveSeat_30 ?_
          refine zz_if_eq (tgt := 54) (by first | exact hB _ _ | exact hUa _ | exact hUb _ | exact hUc _ | exact hUd _ | omega) hx hb dX2_giveSeat_33 (by decide) (fun c_25 => ?_) (fun c_25 => ?_)
          · skip
            refine zz_con 0 hx hb dX2_giveSeat_54 (by decide) ?_
            refine lv_istore (lv' := [(5, .int (nI 0)), (4, .ref (ad 3 i)), (3, .int (nI i)), (2, .null), (0, .ref (ad 0 0)), (1, .ref (ad 5 (N 9 v)))]) hx hb dX2_giveSeat_55 hl (Nat.le_of_ble_eq_true rfl) rfl (fun ls hl => ?_)
            refine lv_iload hx hb dX2_giveSeat_57 (lv_at hl 0 rfl) ?_
            refine zz_if_eq (tgt := 80) (by decide) hx hb dX2_giveSeat_59 (by decide) (fun c_26 => ?_) (fun c_26 => ?_)
            · skip
              refine zz_inc (k := 2) (lv' := [(3, .int (nI (i + 1))), (5, .int (nI 0)), (4, .ref (ad 3 i)), (2, .null), (0, .ref (ad 0 0)), (1, .ref (ad 5 (N 9 v)))]) hx hb dX2_giveSeat_80 hl rfl (Nat.le_of_ble_eq_true rfl) rfl (fun ls hl => ?_)
              refine lv_goto (tgt := 4) hx hb dX2_giveSeat_83 (by decide) ?_
              refine ih_i (i + 1) (by omega) (by omega) _ _ _ ?_ hS ?_
              · exact hZ
              · skip
                rw [show (va_rf (zz_ro (ad 3) (zgv N v (i + 1))) : Value) = .null from (by first | (exact (show _ = va_rf (zz_ro (ad 3) (i + 1)) from by rw [zgv_t (N := N) (k := v) (i := i) (by omega) (by omega) (show zner N v i (zgv N v i) from Or.inl hs_18)]); done) | (exact (show _ = va_rf (zz_ro (ad 3) (i + 1)) from by rw [zgv_t (N := N) (k := v) (i := i) (by omega) (by omega) (zner_s hs_18 (by assumption))]); done) | (rw [zgv_f (fun h => by have h1 := h.1; have h2 := h.2.1; omega), hs_18] <;> rfl; done) | (rw [zgv_f (fun h => absurd h.2.2 (zner_n hs_18 (by assumption))), hs_18] <;> rfl; done))]
                exact lv_sub hl [0, 3, 4, 5] rfl
            · skip
              refine lv_aload_nN hx hb dX2_giveSeat_62 rfl (lv_at hl 3 rfl) ?_
              refine lv_ifnullN (tgt := 77) hx hb dX2_giveSeat_63 (by decide) ?_
              refine lv_aload hx hb dX2_giveSeat_77 (lv_at hl 1 rfl) ?_
              refine lv_astore_n (lv' := [(2, .ref (ad 3 i)), (5, .int (nI 0)), (4, .ref (ad 3 i)), (3, .int (nI i)), (0, .ref (ad 0 0)), (1, .ref (ad 5 (N 9 v)))]) hx hb dX2_giveSeat_79 rfl hl (Nat.le_of_ble_eq_true rfl) rfl (fun ls hl => ?_)
              refine zz_inc (k := 3) (lv' := [(3, .int (nI (i + 1))), (2, .ref (ad 3 i)), (5, .int (nI 0)), (4, .ref (ad 3 i)), (0, .ref (ad 0 0)), (1, .ref (ad 5 (N 9 v)))]) hx hb dX2_giveSeat_80 hl rfl (Nat.le_of_ble_eq_true rfl) rfl (fun ls hl => ?_)
              refine lv_goto (tgt := 4) hx hb dX2_giveSeat_83 (by decide) ?_
              refine ih_i (i + 1) (by omega) (by omega) _ _ _ ?_ hS ?_
              · exact hZ
              · skip
                rw [show (va_rf (zz_ro (ad 3) (zgv N v (i + 1))) : Value) = .ref (ad 3 i) from (by first | (exact (show _ = va_rf (zz_ro (ad 3) (i + 1)) from by rw [zgv_t (N := N) (k := v) (i := i) (by omega) (by omega) (show zner N v i (zgv N v i) from Or.inl hs_18)]); done) | (exact (show _ = va_rf (zz_ro (ad 3) (i + 1)) from by rw [zgv_t (N := N) (k := v) (i := i) (by omega) (by omega) (zner_s hs_18 (by assumption))]); done) | (rw [zgv_f (fun h => by have h1 := h.1; have h2 := h.2.1; omega), hs_18] <;> rfl; done) | (rw [zgv_f (fun h => absurd h.2.2 (zner_n hs_18 (by assumption))), hs_18] <;> rfl; done))]
                exact lv_sub hl [0, 1, 4, 5] rfl
          · skip
            refine lv_aload_n hx hb dX2_giveSeat_36 rfl (lv_at hl 3 rfl) ?_
            refine lv_aload hx hb dX2_giveSeat_37 (lv_at hl 0 rfl) ?_
            refine zz_after (pc := 39) rfl (zz_runV (ci := 5) (q0 := (RX2, TX2, 8)) (b := ad 0 0) (As := [.ref (ad 3 i)]) (rest := []) hx hb hml hown hts (c_X2_countSeatsGivenOn l (K := K) (A := A) (ad := ad) (E := E) (cap := cap) (N := N) (G := G) (L := L) hI hk hj_21) zw_223 zw_225 zs_11 zw_1 zw_226 zd_X2_countSeatsGivenOn ⟨Nat.le_of_ble_eq_true rfl, Nat.le_of_ble_eq_true rfl⟩ hZ.E hZ.A (zx_ob hZ.W).1 rfl rfl hZ.W hl.1 (Nat.le_of_ble_eq_true rfl) dX2_giveSeat_39 ⟨Nat.le_of_ble_eq_true rfl, Nat.le_of_ble_eq_true rfl⟩) hS (fun _ h => h.elim) (fun v_29 H locs hq_27 hF_28 hS => ?_)
            refine W.widen (k := 0) (n := 0) (Nat.le_of_ble_eq_true rfl) (Nat.le_of_ble_eq_true rfl) ?_
            obtain rfl := hq_27
            have hZ := hZ.ro hF_28
            refine W.eq (g2 := F0 m 42 ls [.int (nI (zsit N i 0))]) rfl ?_
            refine lv_aload hx hb dX2_giveSeat_42 (lv_at hl 0 rfl) ?_
            refine zz_getN (ci := 3) (C := RX0) (T := TX0) (N := 7) (v := .int (nI (N 1 i))) hx hb hts hN hown hK (zx_fl hZ.W (f := i) hj_21).1 rfl zf_X0 1 (by decide) zn_336 (fun _ h9 => h9) rfl dX2_giveSeat_44 ?_
            refine zz_ic_ge (tgt := 54) (by first | exact hB _ _ | exact hUa _ | exact hUb _ | exact hUc _ | exact hUd _ | omega) (by first | exact hB _ _ | exact hUa _ | exact hUb _ | exact hUc _ | exact hUd _ | omega) hx hb dX2_giveSeat_47 (by decide) (fun c_30 => ?_) (fun c_30 => ?_)
            · skip
              refine zz_con 0 hx hb dX2_giveSeat_54 (by decide) ?_
              refine lv_istore (lv' := [(5, .int (nI 0)), (4, .ref (ad 3 i)), (3, .int (nI i)), (2, .null), (0, .ref (ad 0 0)), (1, .ref (ad 5 (N 9 v)))]) hx hb dX2_giveSeat_55 hl (Nat.le_of_ble_eq_true rfl) rfl (fun ls hl => ?_)
              refine lv_iload hx hb dX2_giveSeat_57 (lv_at hl 0 rfl) ?_
              refine zz_if_eq (tgt := 80) (by decide) hx hb dX2_giveSeat_59 (by decide) (fun c_31 => ?_) (fun c_31 => ?_)
              · skip
                refine zz_inc (k := 2) (lv' := [(3, .int (nI (i + 1))), (5, .int (nI 0)), (4, .ref (ad 3 i)), (2, .null), (0, .ref (ad 0 0)), (1, .ref (ad 5 (N 9 v)))]) hx hb dX2_giveSeat_80 hl rfl (Nat.le_of_ble_eq_true rfl) rfl (fun ls hl => ?_)
                refine lv_goto (tgt := 4) hx hb dX2_giveSeat_83 (by decide) ?_
                refine ih_i (i + 1) (by omega) (by omega) _ _ _ ?_ hS ?_
                · exact hZ
                · skip
                  rw [show (va_rf (zz_ro (ad 3) (zgv N v (i + 1))) : Value) = .null from (by first | (exact (show _ = va_rf (zz_ro (ad 3) (i + 1)) from by rw [zgv_t (N := N) (k := v) (i := i) (by omega) (by omega) (show zner N v i (zgv N v i) from Or.inl hs_18)]); done) | (exact (show _ = va_rf (zz_ro (ad 3) (i + 1)) from by rw [zgv_t (N := N) (k := v) (i := i) (by omega) (by omega) (zner_s hs_18 (by assumption))]); done) | (rw [zgv_f (fun h => by have h1 := h.1; have h2 := h.2.1; omega), hs_18] <;> rfl; done) | (rw [zgv_f (fun h => absurd h.2.2 (zner_n hs_18 (by assumption))), hs_18] <;> rfl; done))]
                  exact lv_sub hl [0, 3, 4, 5] rfl
              · skip
                refine lv_aload_nN hx hb dX2_giveSeat_62 rfl (lv_at hl 3 rfl) ?_
                refine lv_ifnullN (tgt := 77) hx hb dX2_giveSeat_63 (by decide) ?_
                refine lv_aload hx hb dX2_giveSeat_77 (lv_at hl 1 rfl) ?_
                refine lv_astore_n (lv' := [(2, .ref (ad 3 i)), (5, .int (nI 0)), (4, .ref (ad 3 i)), (3, .int (nI i)), (0, .ref (ad 0 0)), (1, .ref (ad 5 (N 9 v)))]) hx hb dX2_giveSeat_79 rfl hl (Nat.le_of_ble_eq_true rfl) rfl (fun ls hl => ?_)
                refine zz_inc (k := 3) (lv' := [(3, .int (nI (i + 1))), (2, .ref (ad 3 i)), (5, .int (nI 0)), (4, .ref (ad 3 i)), (0, .ref (ad 0 0)), (1, .ref (ad 5 (N 9 v)))]) hx hb dX2_giveSeat_80 hl rfl (Nat.le_of_ble_eq_true rfl) rfl (fun ls hl => ?_)
                refine lv_goto (tgt := 4) hx hb dX2_giveSeat_83 (by decide) ?_
                refine ih_i (i + 1) (by omega) (by omega) _ _ _ ?_ hS ?_
                · exact hZ
                · skip
                  rw [show (va_rf (zz_ro (ad 3) (zgv N v (i + 1))) : Value) = .ref (ad 3 i) from (by first | (exact (show _ = va_rf (zz_ro (ad 3) (i + 1)) from by rw [zgv_t (N := N) (k := v) (i := i) (by omega) (by omega) (show zner N v i (zgv N v i) from Or.inl hs_18)]); done) | (exact (show _ = va_rf (zz_ro (ad 3) (i + 1)) from by rw [zgv_t (N := N) (k := v) (i := i) (by omega) (by omega) (zner_s hs_18 (by assumption))]); done) | (rw [zgv_f (fun h => by have h1 := h.1; have h2 := h.2.1; omega), hs_18] <;> rfl; done) | (rw [zgv_f (fun h => absurd h.2.2 (zner_n hs_18 (by assumption))), hs_18] <;> rfl; done))]
                  exact lv_sub hl [0, 1, 4, 5] rfl
            · skip
              refine zz_con 1 hx hb dX2_giveSeat_50 (by decide) ?_
              refine lv_goto (tgt := 55) hx hb dX2_giveSeat_51 (by decide) ?_
              refine lv_istore (lv' := [(5, .int (nI 1)), (4, .ref (ad 3 i)), (3, .int (nI i)), (2, .null), (0, .ref (ad 0 0)), (1, .ref (ad 5 (N 9 v)))]) hx hb dX2_giveSeat_55 hl (Nat.le_of_ble_eq_true rfl) rfl (fun ls hl => ?_)
              refine lv_iload hx hb dX2_giveSeat_57 (lv_at hl 0 rfl) ?_
              refine zz_if_eq (tgt := 80) (by decide) hx hb dX2_giveSeat_59 (by decide) (fun c_32 => ?_) (fun c_32 => ?_)
              · skip
                refine zz_inc (k := 2) (lv' := [(3, .int (nI (i + 1))), (5, .int (nI 1)), (4, .ref (ad 3 i)), (2, .null), (0, .ref (ad 0 0)), (1, .ref (ad 5 (N 9 v)))]) hx hb dX2_giveSeat_80 hl rfl (Nat.le_of_ble_eq_true rfl) rfl (fun ls hl => ?_)
                refine lv_goto (tgt := 4) hx hb dX2_giveSeat_83 (by decide) ?_
                refine ih_i (i + 1) (by omega) (by omega) _ _ _ ?_ hS ?_
                · exact hZ
                · skip
                  rw [show (va_rf (zz_ro (ad 3) (zgv N v (i + 1))) : Value) = .null from (by first | (exact (show _ = va_rf (zz_ro (ad 3) (i + 1)) from by rw [zgv_t (N := N) (k := v) (i := i) (by omega) (by omega) (show zner N v i (zgv N v i) from Or.inl hs_18)]); done) | (exact (show _ = va_rf (zz_ro (ad 3) (i + 1)) from by rw [zgv_t (N := N) (k := v) (i := i) (by omega) (by omega) (zner_s hs_18 (by assumption))]); done) | (rw [zgv_f (fun h => by have h1 := h.1; have h2 := h.2.1; omega), hs_18] <;> rfl; done) | (rw [zgv_f (fun h => absurd h.2.2 (zner_n hs_18 (by assumption))), hs_18] <;> rfl; done))]
                  exact lv_sub hl [0, 3, 4, 5] rfl
              · skip
                refine lv_aload_nN hx hb dX2_giveSeat_62 rfl (lv_at hl 3 rfl) ?_
                refine lv_ifnullN (tgt := 77) hx hb dX2_giveSeat_63 (by decide) ?_
                refine lv_aload hx hb dX2_giveSeat_77 (lv_at hl 1 rfl) ?_
                refine lv_astore_n (lv' := [(2, .ref (ad 3 i)), (5, .int (nI 1)), (4, .ref (ad 3 i)), (3, .int (nI i)), (0, .ref (ad 0 0)), (1, .ref (ad 5 (N 9 v)))]) hx hb dX2_giveSeat_79 rfl hl (Nat.le_of_ble_eq_true rfl) rfl (fun ls hl => ?_)
                refine zz_inc (k := 3) (lv' := [(3, .int (nI (i + 1))), (2, .ref (ad 3 i)), (5, .int (nI 1)), (4, .ref (ad 3 i)), (0, .ref (ad 0 0)), (1, .ref (ad 5 (N 9 v)))]) hx hb dX2_giveSeat_80 hl rfl (Nat.le_of_ble_eq_true rfl) rfl (fun ls hl => ?_)
                refine lv_goto (tgt := 4) hx hb dX2_giveSeat_83 (by decide) ?_
                refine ih_i (i + 1) (by omega) (by omega) _ _ _ ?_ hS ?_
                · exact hZ
                · skip
                  rw [show (va_rf (zz_ro (ad 3) (zgv N v (i + 1))) : Value) = .ref (ad 3 i) from (by first | (exact (show _ = va_rf (zz_ro (ad 3) (i + 1)) from by rw [zgv_t (N := N) (k := v) (i := i) (by omega) (by omega) (show zner N v i (zgv N v i) from Or.inl hs_18)]); done) | (exact (show _ = va_rf (zz_ro (ad 3) (i + 1)) from by rw [zgv_t (N := N) (k := v) (i := i) (by omega) (by omega) (zner_s hs_18 (by assumption))]); done) | (rw [zgv_f (fun h => by have h1 := h.1; have h2 := h.2.1; omega), hs_18] <;> rfl; done) | (rw [zgv_f (fun h => absurd h.2.2 (zner_n hs_18 (by assumption))), hs_18] <;> rfl; done))]
                  exact lv_sub hl [0, 1, 4, 5] rfl
        · skip
          have hz_20 : z_19 < N 0 0 := by have := zgv_le N v i; omega
          rw [hs_18] at hl
          have hl : lv_has ls 6 [(3, .int (nI i)), (2, .ref (ad 3 z_19)), (0, .ref (ad 0 0)), (1, .ref (ad 5 (N 9 v)))] := hl
          refine lv_aload_n hx hb dX2_giveSeat_15 rfl (lv_at hl 2 rfl) ?_
          refine zz_get (ci := 5) (C := RX2) (T := TX2) (N := 8) (v := .ref (ad 1 0)) hx hb hts hown hK (zx_ob hZ.W).1 rfl zf_X2 0 (by decide) zw_59 (fun _ h9 => h9) rfl dX2_giveSeat_16 ?_
          refine lv_iload_n hx hb dX2_giveSeat_19 rfl (lv_at hl 0 rfl) ?_
          have hj_33 : i < N 0 0 := by omega
          refine zz_after (pc := 20) rfl (zz_runV (ci := 2) (q0 := (RJx4a65c, TJx4a65c, 3)) (b := ad 1 0) (As := [.int (nI i)]) (rest := []) hx hb hml hown hts (c_Jx4a65c_get_915e3 l (K := K) (A := A) (ad := ad) (E := E) (cap := cap) (N := N) (G := G) (L := L) hk (by decide) (j := i) (r := (ad 3 i)) hj_33 (zx_g0 hj_33)) zw_101 zw_102 zw_103 zw_4 zw_104 zd_Jx4a65c_get_915e3 ⟨Nat.le_of_ble_eq_true rfl, Nat.le_of_ble_eq_true rfl⟩ hZ.E hZ.A (zx_li hZ.W (t := 0) (by decide)).1 rfl rfl hZ.W hl.1 (Nat.le_of_ble_eq_true rfl) dX2_giveSeat_20 ⟨Nat.le_of_ble_eq_true rfl, Nat.le_of_ble_eq_true rfl⟩) hS (fun _ h => h.elim) (fun v_36 H locs hq_34 hF_35 hS => ?_)
          refine W.widen (k := 0) (n := 0) (Nat.le_of_ble_eq_true rfl) (Nat.le_of_ble_eq_true rfl) ?_
          obtain rfl := hq_34
          have hZ := hZ.ro hF_35
          refine W.eq (g2 := F0 m 23 ls [.ref (ad 3 i)]) rfl ?_
          refine va_castS hx hb hown (hts _ zw_115) (hK.1 3 _ rfl).2 (zz_rc hK (zx_fl hZ.W (f := i) hj_33).1 rfl) dX2_giveSeat_23 ?_
          refine lv_astore (lv' := [(4, .ref (ad 3 i)), (3, .int (nI i)), (2, .ref (ad 3 z_19)), (0, .ref (ad 0 0)), (1, .ref (ad 5 (N 9 v)))]) hx hb dX2_giveSeat_26 hl (Nat.le_of_ble_eq_true rfl) rfl (fun ls hl => ?_)
          refine lv_aload hx hb dX2_giveSeat_28 (lv_at hl 0 rfl) ?_
          refine zz_getN (ci := 3) (C := RX0) (T := TX0) (N := 7) (v := .int (nI (N 3 i))) hx hb hts hN hown hK (zx_fl hZ.W (f := i) hj_33).1 rfl zf_X0 3 (by decide) zn_340 (fun _ h9 => h9) rfl dX2_giveSeat_30 ?_
          refine zz_if_eq (tgt := 54) (by first | exact hB _ _ | exact hUa _ | exact hUb _ | exact hUc _ | exact hUd _ | omega) hx hb dX2_giveSeat_33 (by decide) (fun c_37 => ?_) (fun c_37 => ?_)
          · skip
            refine zz_con 0 hx hb dX2_giveSeat_54 (by decide) ?_
            refine lv_istore (lv' := [(5, .int (nI 0)), (4, .ref (ad 3 i)), (3, .int (nI i)), (2, .ref (ad 3 z_19)), (0, .ref (ad 0 0)), (1, .ref (ad 5 (N 9 v)))]) hx hb dX2_giveSeat_55 hl (Nat.le_of_ble_eq_true rfl) rfl (fun ls hl => ?_)
            refine lv_iload hx hb dX2_giveSeat_57 (lv_at hl 0 rfl) ?_
            refine zz_if_eq (tgt := 80) (by decide) hx hb dX2_giveSeat_59 (by decide) (fun c_38 => ?_) (fun c_38 => ?_)
            · skip
              refine zz_inc (k := 2) (lv' := [(3, .int (nI (i + 1))), (5, .int (nI 0)), (4, .ref (ad 3 i)), (2, .ref (ad 3 z_19)), (0, .ref (ad 0 0)), (1, .ref (ad 5 (N 9 v)))]) hx hb dX2_giveSeat_80 hl rfl (Nat.le_of_ble_eq_true rfl) rfl (fun ls hl => ?_)
              refine lv_goto (tgt := 4) hx hb dX2_giveSeat_83 (by decide) ?_
              refine ih_i (i + 1) (by omega) (by omega) _ _ _ ?_ hS ?_
              · exact hZ
              · skip
                rw [show (va_rf (zz_ro (ad 3) (zgv N v (i + 1))) : Value) = .ref (ad 3 z_19) from (by first | (exact (show _ = va_rf (zz_ro (ad 3) (i + 1)) from by rw [zgv_t (N := N) (k := v) (i := i) (by omega) (by omega) (show zner N v i (zgv N v i) from Or.inl hs_18)]); done) | (exact (show _ = va_rf (zz_ro (ad 3) (i + 1)) from by rw [zgv_t (N := N) (k := v) (i := i) (by omega) (by omega) (zner_s hs_18 (by assumption))]); done) | (rw [zgv_f (fun h => by have h1 := h.1; have h2 := h.2.1; omega), hs_18] <;> rfl; done) | (rw [zgv_f (fun h => absurd h.2.2 (zner_n hs_18 (by assumption))), hs_18] <;> rfl; done))]
                exact lv_sub hl [0, 3, 4, 5] rfl
            · skip
              refine lv_aload_n hx hb dX2_giveSeat_62 rfl (lv_at hl 3 rfl) ?_
              refine lv_ifnull hx hb dX2_giveSeat_63 ?_
              refine lv_aload_n hx hb dX2_giveSeat_66 rfl (lv_at hl 4 rfl) ?_
              refine lv_aload_n hx hb dX2_giveSeat_67 rfl (lv_at hl 5 rfl) ?_
              refine lv_aload hx hb dX2_giveSeat_68 (lv_at hl 1 rfl) ?_
              refine lv_aload_n hx hb dX2_giveSeat_70 rfl (lv_at hl 3 rfl) ?_
              refine zz_after (pc := 71) rfl (zz_runV (ci := 5) (q0 := (RX2, TX2, 8)) (b := ad 0 0) (As := [.ref (ad 5 (N 9 v)), .ref (ad 3 i), .ref (ad 3 z_19)]) (rest := []) hx hb hml hown hts (c_X2_suitsBetter l (K := K) (A := A) (ad := ad) (E := E) (cap := cap) (N := N) (G := G) (L := L) hI hk (hI.bk v hv) hj_33 hz_20 (hI.bw v hv)) zw_658 zw_660 zs_28 zw_1 zw_661 zd_X2_suitsBetter ⟨Nat.le_of_ble_eq_true rfl, Nat.le_of_ble_eq_true rfl⟩ hZ.E hZ.A (zx_ob hZ.W).1 rfl rfl hZ.W hl.1 (Nat.le_of_ble_eq_true rfl) dX2_giveSeat_71 ⟨Nat.le_of_ble_eq_true rfl, Nat.le_of_ble_eq_true rfl⟩) hS (fun _ h => h.elim) (fun v_41 H locs hq_39 hF_40 hS => ?_)
              refine W.widen (k := 0) (n := 0) (Nat.le_of_ble_eq_true rfl) (Nat.le_of_ble_eq_true rfl) ?_
              obtain rfl := hq_39
              have hZ := hZ.ro hF_40
              refine W.eq (g2 := F0 m 74 ls [.int (zz_bo (zd i (N 10 v) < zd z_19 (N 10 v) ∨ zd i (N 10 v) = zd z_19 (N 10 v) ∧ zsit N z_19 (N 4 (N 9 v) + 1) < zsit N i (N 4 (N 9 v) + 1)))]) rfl ?_
              refine zz_bi_eq (tgt := 80) hx hb dX2_giveSeat_74 (by decide) (fun c_42 => ?_) (fun c_42 => ?_)
              · skip
                refine zz_inc (k := 2) (lv' := [(3, .int (nI (i + 1))), (5, .int (nI 0)), (4, .ref (ad 3 i)), (2, .ref (ad 3 z_19)), (0, .ref (ad 0 0)), (1, .ref (ad 5 (N 9 v)))]) hx hb dX2_giveSeat_80 hl rfl (Nat.le_of_ble_eq_true rfl) rfl (fun ls hl => ?_)
                refine lv_goto (tgt := 4) hx hb dX2_giveSeat_83 (by decide) ?_
                refine ih_i (i + 1) (by omega) (by omega) _ _ _ ?_ hS ?_
                · exact hZ
                · skip
                  rw [show (va_rf (zz_ro (ad 3) (zgv N v (i + 1))) : Value) = .ref (ad 3 z_19) from (by first | (exact (show _ = va_rf (zz_ro (ad 3) (i + 1)) from by rw [zgv_t (N := N) (k := v) (i := i) (by omega) (by omega) (show zner N v i (zgv N v i) from Or.inl hs_18)]); done) | (exact (show _ = va_rf (zz_ro (ad 3) (i + 1)) from by rw [zgv_t (N := N) (k := v) (i := i) (by omega) (by omega) (zner_s hs_18 (by assumption))]); done) | (rw [zgv_f (fun h => by have h1 := h.1; have h2 := h.2.1; omega), hs_18] <;> rfl; done) | (rw [zgv_f (fun h => absurd h.2.2 (zner_n hs_18 (by assumption))), hs_18] <;> rfl; done))]
                  exact lv_sub hl [0, 3, 4, 5] rfl
              · skip
                refine lv_aload hx hb dX2_giveSeat_77 (lv_at hl 1 rfl) ?_
                refine lv_astore_n (lv' := [(2, .ref (ad 3 i)), (5, .int (nI 0)), (4, .ref (ad 3 i)), (3, .int (nI i)), (0, .ref (ad 0 0)), (1, .ref (ad 5 (N 9 v)))]) hx hb dX2_giveSeat_79 rfl hl (Nat.le_of_ble_eq_true rfl) rfl (fun ls hl => ?_)
                refine zz_inc (k := 3) (lv' := [(3, .int (nI (i + 1))), (2, .ref (ad 3 i)), (5, .int (nI 0)), (4, .ref (ad 3 i)), (0, .ref (ad 0 0)), (1, .ref (ad 5 (N 9 v)))]) hx hb dX2_giveSeat_80 hl rfl (Nat.le_of_ble_eq_true rfl) rfl (fun ls hl => ?_)
                refine lv_goto (tgt := 4) hx hb dX2_giveSeat_83 (by decide) ?_
                refine ih_i (i + 1) (by omega) (by omega) _ _ _ ?_ hS ?_
                · exact hZ
                · skip
                  rw [show (va_rf (zz_ro (ad 3) (zgv N v (i + 1))) : Value) = .ref (ad 3 i) from (by first | (exact (show _ = va_rf (zz_ro (ad 3) (i + 1)) from by rw [zgv_t (N := N) (k := v) (i := i) (by omega) (by omega) (show zner N v i (zgv N v i) from Or.inl hs_18)]); done) | (exact (show _ = va_rf (zz_ro (ad 3) (i + 1)) from by rw [zgv_t (N := N) (k := v) (i := i) (by omega) (by omega) (zner_s hs_18 (by assumption))]); done) | (rw [zgv_f (fun h => by have h1 := h.1; have h2 := h.2.1; omega), hs_18] <;> rfl; done) | (rw [zgv_f (fun h => absurd h.2.2 (zner_n hs_18 (by assumption))), hs_18] <;> rfl; done))]
                  exact lv_sub hl [0, 1, 4, 5] rfl
          · skip
            refine lv_aload_n hx hb dX2_giveSeat_36 rfl (lv_at hl 3 rfl) ?_
            refine lv_aload hx hb dX2_giveSeat_37 (lv_at hl 0 rfl) ?_
            refine zz_after (pc := 39) rfl (zz_runV (ci := 5) (q0 := (RX2, TX2, 8)) (b := ad 0 0) (As := [.ref (ad 3 i)]) (rest := []) hx hb hml hown hts (c_X2_countSeatsGivenOn l (K := K) (A := A) (ad := ad) (E := E) (cap := cap) (N := N) (G := G) (L := L) hI hk hj_33) zw_223 zw_225 zs_11 zw_1 zw_226 zd_X2_countSeatsGivenOn ⟨Nat.le_of_ble_eq_true rfl, Nat.le_of_ble_eq_true rfl⟩ hZ.E hZ.A (zx_ob hZ.W).1 rfl rfl hZ.W hl.1 (Nat.le_of_ble_eq_true rfl) dX2_giveSeat_39 ⟨Nat.le_of_ble_eq_true rfl, Nat.le_of_ble_eq_true rfl⟩) hS (fun _ h => h.elim) (fun v_45 H locs hq_43 hF_44 hS => ?_)
            refine W.widen (k := 0) (n := 0) (Nat.le_of_ble_eq_true rfl) (Nat.le_of_ble_eq_true rfl) ?_
            obtain rfl := hq_43
            have hZ := hZ.ro hF_44
            refine W.eq (g2 := F0 m 42 ls [.int (nI (zsit N i 0))]) rfl ?_
            refine lv_aload hx hb dX2_giveSeat_42 (lv_at hl 0 rfl) ?_
            refine zz_getN (ci := 3) (C := RX0) (T := TX0) (N := 7) (v := .int (nI (N 1 i))) hx hb hts hN hown hK (zx_fl hZ.W (f := i) hj_33).1 rfl zf_X0 1 (by decide) zn_336 (fun _ h9 => h9) rfl dX2_giveSeat_44 ?_
            refine zz_ic_ge (tgt := 54) (by first | exact hB _ _ | exact hUa _ | exact hUb _ | exact hUc _ | exact hUd _ | omega) (by first | exact hB _ _ | exact hUa _ | exact hUb _ | exact hUc _ | exact hUd _ | omega) hx hb dX2_giveSeat_47 (by decide) (fun c_46 => ?_) (fun c_46 => ?_)
            · skip
              refine zz_con 0 hx hb dX2_giveSeat_54 (by decide) ?_
              refine lv_istore (lv' := [(5, .int (nI 0)), (4, .ref (ad 3 i)), (3, .int (nI i)), (2, .ref (ad 3 z_19)), (0, .ref (ad 0 0)), (1, .ref (ad 5 (N 9 v)))]) hx hb dX2_giveSeat_55 hl (Nat.le_of_ble_eq_true rfl) rfl (fun ls hl => ?_)
              refine lv_iload hx hb dX2_giveSeat_57 (lv_at hl 0 rfl) ?_
              refine zz_if_eq (tgt := 80) (by decide) hx hb dX2_giveSeat_59 (by decide) (fun c_47 => ?_) (fun c_47 => ?_)
              · skip
                refine zz_inc (k := 2) (lv' := [(3, .int (nI (i + 1))), (5, .int (nI 0)), (4, .ref (ad 3 i)), (2, .ref (ad 3 z_19)), (0, .ref (ad 0 0)), (1, .ref (ad 5 (N 9 v)))]) hx hb dX2_giveSeat_80 hl rfl (Nat.le_of_ble_eq_true rfl) rfl (fun ls hl => ?_)
                refine lv_goto (tgt := 4) hx hb dX2_giveSeat_83 (by decide) ?_
                refine ih_i (i + 1) (by omega) (by omega) _ _ _ ?_ hS ?_
                · exact hZ
                · skip
                  rw [show (va_rf (zz_ro (ad 3) (zgv N v (i + 1))) : Value) = .ref (ad 3 z_19) from (by first | (exact (show _ = va_rf (zz_ro (ad 3) (i + 1)) from by rw [zgv_t (N := N) (k := v) (i := i) (by omega) (by omega) (show zner N v i (zgv N v i) from Or.inl hs_18)]); done) | (exact (show _ = va_rf (zz_ro (ad 3) (i + 1)) from by rw [zgv_t (N := N) (k := v) (i := i) (by omega) (by omega) (zner_s hs_18 (by assumption))]); done) | (rw [zgv_f (fun h => by have h1 := h.1; have h2 := h.2.1; omega), hs_18] <;> rfl; done) | (rw [zgv_f (fun h => absurd h.2.2 (zner_n hs_18 (by assumption))), hs_18] <;> rfl; done))]
                  exact lv_sub hl [0, 3, 4, 5] rfl
              · skip
                refine lv_aload_n hx hb dX2_giveSeat_62 rfl (lv_at hl 3 rfl) ?_
                refine lv_ifnull hx hb dX2_giveSeat_63 ?_
                refine lv_aload_n hx hb dX2_giveSeat_66 rfl (lv_at hl 4 rfl) ?_
                refine lv_aload_n hx hb dX2_giveSeat_67 rfl (lv_at hl 5 rfl) ?_
                refine lv_aload hx hb dX2_giveSeat_68 (lv_at hl 1 rfl) ?_
                refine lv_aload_n hx hb dX2_giveSeat_70 rfl (lv_at hl 3 rfl) ?_
                refine zz_after (pc := 71) rfl (zz_runV (ci := 5) (q0 := (RX2, TX2, 8)) (b := ad 0 0) (As := [.ref (ad 5 (N 9 v)), .ref (ad 3 i), .ref (ad 3 z_19)]) (rest := []) hx hb hml hown hts (c_X2_suitsBetter l (K := K) (A := A) (ad := ad) (E := E) (cap := cap) (N := N) (G := G) (L := L) hI hk (hI.bk v hv) hj_33 hz_20 (hI.bw v hv)) zw_658 zw_660 zs_28 zw_1 zw_661 zd_X2_suitsBetter ⟨Nat.le_of_ble_eq_true rfl, Nat.le_of_ble_eq_true rfl⟩ hZ.E hZ.A (zx_ob hZ.W).1 rfl rfl hZ.W hl.1 (Nat.le_of_ble_eq_true rfl) dX2_giveSeat_71 ⟨Nat.le_of_ble_eq_true rfl, Nat.le_of_ble_eq_true rfl⟩) hS (fun _ h => h.elim) (fun v_50 H locs hq_48 hF_49 hS => ?_)
                refine W.widen (k := 0) (n := 0) (Nat.le_of_ble_eq_true rfl) (Nat.le_of_ble_eq_true rfl) ?_
                obtain rfl := hq_48
                have hZ := hZ.ro hF_49
                refine W.eq (g2 := F0 m 74 ls [.int (zz_bo (zd i (N 10 v) < zd z_19 (N 10 v) ∨ zd i (N 10 v) = zd z_19 (N 10 v) ∧ zsit N z_19 (N 4 (N 9 v) + 1) < zsit N i (N 4 (N 9 v) + 1)))]) rfl ?_
                refine zz_bi_eq (tgt := 80) hx hb dX2_giveSeat_74 (by decide) (fun c_51 => ?_) (fun c_51 => ?_)
                · skip
                  refine zz_inc (k := 2) (lv' := [(3, .int (nI (i + 1))), (5, .int (nI 0)), (4, .ref (ad 3 i)), (2, .ref (ad 3 z_19)), (0, .ref (ad 0 0)), (1, .ref (ad 5 (N 9 v)))]) hx hb dX2_giveSeat_80 hl rfl (Nat.le_of_ble_eq_true rfl) rfl (fun ls hl => ?_)
                  refine lv_goto (tgt := 4) hx hb dX2_giveSeat_83 (by decide) ?_
                  refine ih_i (i + 1) (by omega) (by omega) _ _ _ ?_ hS ?_
                  · exact hZ
                  · skip
                    rw [show (va_rf (zz_ro (ad 3) (zgv N v (i + 1))) : Value) = .ref (ad 3 z_19) from (by first | (exact (show _ = va_rf (zz_ro (ad 3) (i + 1)) from by rw [zgv_t (N := N) (k := v) (i := i) (by omega) (by omega) (show zner N v i (zgv N v i) from Or.inl hs_18)]); done) | (exact (show _ = va_rf (zz_ro (ad 3) (i + 1)) from by rw [zgv_t (N := N) (k := v) (i := i) (by omega) (by omega) (zner_s hs_18 (by assumption))]); done) | (rw [zgv_f (fun h => by have h1 := h.1; have h2 := h.2.1; omega), hs_18] <;> rfl; done) | (rw [zgv_f (fun h => absurd h.2.2 (zner_n hs_18 (by assumption))), hs_18] <;> rfl; done))]
                    exact lv_sub hl [0, 3, 4, 5] rfl
                · skip
                  refine lv_aload hx hb dX2_giveSeat_77 (lv_at hl 1 rfl) ?_
                  refine lv_astore_n (lv' := [(2, .ref (ad 3 i)), (5, .int (nI 0)), (4, .ref (ad 3 i)), (3, .int (nI i)), (0, .ref (ad 0 0)), (1, .ref (ad 5 (N 9 v)))]) hx hb dX2_giveSeat_79 rfl hl (Nat.le_of_ble_eq_true rfl) rfl (fun ls hl => ?_)
                  refine zz_inc (k := 3) (lv' := [(3, .int (nI (i + 1))), (2, .ref (ad 3 i)), (5, .int (nI 0)), (4, .ref (ad 3 i)), (0, .ref (ad 0 0)), (1, .ref (ad 5 (N 9 v)))]) hx hb dX2_giveSeat_80 hl rfl (Nat.le_of_ble_eq_true rfl) rfl (fun ls hl => ?_)
                  refine lv_goto (tgt := 4) hx hb dX2_giveSeat_83 (by decide) ?_
                  refine ih_i (i + 1) (by omega) (by omega) _ _ _ ?_ hS ?_
                  · exact hZ
                  · skip
                    rw [show (va_rf (zz_ro (ad 3) (zgv N v (i + 1))) : Value) = .ref (ad 3 i) from (by first | (exact (show _ = va_rf (zz_ro (ad 3) (i + 1)) from by rw [zgv_t (N := N) (k := v) (i := i) (by omega) (by omega) (show zner N v i (zgv N v i) from Or.inl hs_18)]); done) | (exact (show _ = va_rf (zz_ro (ad 3) (i + 1)) from by rw [zgv_t (N := N) (k := v) (i := i) (by omega) (by omega) (zner_s hs_18 (by assumption))]); done) | (rw [zgv_f (fun h => by have h1 := h.1; have h2 := h.2.1; omega), hs_18] <;> rfl; done) | (rw [zgv_f (fun h => absurd h.2.2 (zner_n hs_18 (by assumption))), hs_18] <;> rfl; done))]
                    exact lv_sub hl [0, 1, 4, 5] rfl
            · skip
              refine zz_con 1 hx hb dX2_giveSeat_50 (by decide) ?_
              refine lv_goto (tgt := 55) hx hb dX2_giveSeat_51 (by decide) ?_
              refine lv_istore (lv' := [(5, .int (nI 1)), (4, .ref (ad 3 i)), (3, .int (nI i)), (2, .ref (ad 3 z_19)), (0, .ref (ad 0 0)), (1, .ref (ad 5 (N 9 v)))]) hx hb dX2_giveSeat_55 hl (Nat.le_of_ble_eq_true rfl) rfl (fun ls hl => ?_)
              refine lv_iload hx hb dX2_giveSeat_57 (lv_at hl 0 rfl) ?_
              refine zz_if_eq (tgt := 80) (by decide) hx hb dX2_giveSeat_59 (by decide) (fun c_52 => ?_) (fun c_52 => ?_)
              · skip
                refine zz_inc (k := 2) (lv' := [(3, .int (nI (i + 1))), (5, .int (nI 1)), (4, .ref (ad 3 i)), (2, .ref (ad 3 z_19)), (0, .ref (ad 0 0)), (1, .ref (ad 5 (N 9 v)))]) hx hb dX2_giveSeat_80 hl rfl (Nat.le_of_ble_eq_true rfl) rfl (fun ls hl => ?_)
                refine lv_goto (tgt := 4) hx hb dX2_giveSeat_83 (by decide) ?_
                refine ih_i (i + 1) (by omega) (by omega) _ _ _ ?_ hS ?_
                · exact hZ
                · skip
                  rw [show (va_rf (zz_ro (ad 3) (zgv N v (i + 1))) : Value) = .ref (ad 3 z_19) from (by first | (exact (show _ = va_rf (zz_ro (ad 3) (i + 1)) from by rw [zgv_t (N := N) (k := v) (i := i) (by omega) (by omega) (show zner N v i (zgv N v i) from Or.inl hs_18)]); done) | (exact (show _ = va_rf (zz_ro (ad 3) (i + 1)) from by rw [zgv_t (N := N) (k := v) (i := i) (by omega) (by omega) (zner_s hs_18 (by assumption))]); done) | (rw [zgv_f (fun h => by have h1 := h.1; have h2 := h.2.1; omega), hs_18] <;> rfl; done) | (rw [zgv_f (fun h => absurd h.2.2 (zner_n hs_18 (by assumption))), hs_18] <;> rfl; done))]
                  exact lv_sub hl [0, 3, 4, 5] rfl
              · skip
                refine lv_aload_n hx hb dX2_giveSeat_62 rfl (lv_at hl 3 rfl) ?_
                refine lv_ifnull hx hb dX2_giveSeat_63 ?_
                refine lv_aload_n hx hb dX2_giveSeat_66 rfl (lv_at hl 4 rfl) ?_
                refine lv_aload_n hx hb dX2_giveSeat_67 rfl (lv_at hl 5 rfl) ?_
                refine lv_aload hx hb dX2_giveSeat_68 (lv_at hl 1 rfl) ?_
                refine lv_aload_n hx hb dX2_giveSeat_70 rfl (lv_at hl 3 rfl) ?_
                refine zz_after (pc := 71) rfl (zz_runV (ci := 5) (q0 := (RX2, TX2, 8)) (b := ad 0 0) (As := [.ref (ad 5 (N 9 v)), .ref (ad 3 i), .ref (ad 3 z_19)]) (rest := []) hx hb hml hown hts (c_X2_suitsBetter l (K := K) (A := A) (ad := ad) (E := E) (cap := cap) (N := N) (G := G) (L := L) hI hk (hI.bk v hv) hj_33 hz_20 (hI.bw v hv)) zw_658 zw_660 zs_28 zw_1 zw_661 zd_X2_suitsBetter ⟨Nat.le_of_ble_eq_true rfl, Nat.le_of_ble_eq_true rfl⟩ hZ.E hZ.A (zx_ob hZ.W).1 rfl rfl hZ.W hl.1 (Nat.le_of_ble_eq_true rfl) dX2_giveSeat_71 ⟨Nat.le_of_ble_eq_true rfl, Nat.le_of_ble_eq_true rfl⟩) hS (fun _ h => h.elim) (fun v_55 H locs hq_53 hF_54 hS => ?_)
                refine W.widen (k := 0) (n := 0) (Nat.le_of_ble_eq_true rfl) (Nat.le_of_ble_eq_true rfl) ?_
                obtain rfl := hq_53
                have hZ := hZ.ro hF_54
                refine W.eq (g2 := F0 m 74 ls [.int (zz_bo (zd i (N 10 v) < zd z_19 (N 10 v) ∨ zd i (N 10 v) = zd z_19 (N 10 v) ∧ zsit N z_19 (N 4 (N 9 v) + 1) < zsit N i (N 4 (N 9 v) + 1)))]) rfl ?_
                refine zz_bi_eq (tgt := 80) hx hb dX2_giveSeat_74 (by decide) (fun c_56 => ?_) (fun c_56 => ?_)
                · skip
                  refine zz_inc (k := 2) (lv' := [(3, .int (nI (i + 1))), (5, .int (nI 1)), (4, .ref (ad 3 i)), (2, .ref (ad 3 z_19)), (0, .ref (ad 0 0)), (1, .ref (ad 5 (N 9 v)))]) hx hb dX2_giveSeat_80 hl rfl (Nat.le_of_ble_eq_true rfl) rfl (fun ls hl => ?_)
                  refine lv_goto (tgt := 4) hx hb dX2_giveSeat_83 (by decide) ?_
                  refine ih_i (i + 1) (by omega) (by omega) _ _ _ ?_ hS ?_
                  · exact hZ
                  · skip
                    rw [show (va_rf (zz_ro (ad 3) (zgv N v (i + 1))) : Value) = .ref (ad 3 z_19) from (by first | (exact (show _ = va_rf (zz_ro (ad 3) (i + 1)) from by rw [zgv_t (N := N) (k := v) (i := i) (by omega) (by omega) (show zner N v i (zgv N v i) from Or.inl hs_18)]); done) | (exact (show _ = va_rf (zz_ro (ad 3) (i + 1)) from by rw [zgv_t (N := N) (k := v) (i := i) (by omega) (by omega) (zner_s hs_18 (by assumption))]); done) | (rw [zgv_f (fun h => by have h1 := h.1; have h2 := h.2.1; omega), hs_18] <;> rfl; done) | (rw [zgv_f (fun h => absurd h.2.2 (zner_n hs_18 (by assumption))), hs_18] <;> rfl; done))]
                    exact lv_sub hl [0, 3, 4, 5] rfl
                · skip
                  refine lv_aload hx hb dX2_giveSeat_77 (lv_at hl 1 rfl) ?_
                  refine lv_astore_n (lv' := [(2, .ref (ad 3 i)), (5, .int (nI 1)), (4, .ref (ad 3 i)), (3, .int (nI i)), (0, .ref (ad 0 0)), (1, .ref (ad 5 (N 9 v)))]) hx hb dX2_giveSeat_79 rfl hl (Nat.le_of_ble_eq_true rfl) rfl (fun ls hl => ?_)
                  refine zz_inc (k := 3) (lv' := [(3, .int (nI (i + 1))), (2, .ref (ad 3 i)), (5, .int (nI 1)), (4, .ref (ad 3 i)), (0, .ref (ad 0 0)), (1, .ref (ad 5 (N 9 v)))]) hx hb dX2_giveSeat_80 hl rfl (Nat.le_of_ble_eq_true rfl) rfl (fun ls hl => ?_)
                  refine lv_goto (tgt := 4) hx hb dX2_giveSeat_83 (by decide) ?_
                  refine ih_i (i + 1) (by omega) (by omega) _ _ _ ?_ hS ?_
                  · exact hZ
                  · skip
                    rw [show (va_rf (zz_ro (ad 3) (zgv N v (i + 1))) : Value) = .ref (ad 3 i) from (by first | (exact (show _ = va_rf (zz_ro (ad 3) (i + 1)) from by rw [zgv_t (N := N) (k := v) (i := i) (by omega) (by omega) (show zner N v i (zgv N v i) from Or.inl hs_18)]); done) | (exact (show _ = va_rf (zz_ro (ad 3) (i + 1)) from by rw [zgv_t (N := N) (k := v) (i := i) (by omega) (by omega) (zner_s hs_18 (by assumption))]); done) | (rw [zgv_f (fun h => by have h1 := h.1; have h2 := h.2.1; omega), hs_18] <;> rfl; done) | (rw [zgv_f (fun h => absurd h.2.2 (zner_n hs_18 (by assumption))), hs_18] <;> rfl; done))]
                    exact lv_sub hl [0, 1, 4, 5] rfl
  refine hL_2 (N 0 0 + 1) 0 (by first | omega | exact Nat.zero_le _) (by first | omega | (rw [Nat.zero_add]; exact Nat.lt_succ_self _)) _ _ _ hZ hS ?_
  exact lv_sub (show lv_has _ _ _ from hl) [0, 1, 2, 3] rfl

set_option maxHeartbeats 4000000 in
set_option maxRecDepth 100000 in
theorem c_X2_giveSeats (l : Launch) {K : zz_G} {A : Nat → Prop} {ad : Nat → Nat → Nat} {E : Nat → Nat → Int32} {cap : Nat → Nat} {N : Nat → Nat → Nat} {G : Nat → Nat → Int32} {L : Nat → Int64} (hI : zq N) (hk : zk K ad cap N)  : zz_C l yX2_giveSeats cX2_giveSeats 4 (Option.none : Option Jvm.ClassFile.FieldType) ({ frames := 6, cells := 0, slots := 0, locals := 139 } : Room) K A [.ref (ad 0 0)] (fun H => zz_W K A ad (zx_c K ad E cap N G L) H) (fun v9 _ H9 => v9 = none ∧ zz_W K A ad (zx_c K ad E cap (zs_gd N 11) G L) H9) zz_nx A := by
  refine zz_body (by decide +kernel) (Nat.le_of_ble_eq_true rfl) ?_
  intro p e s m below meth c ls hx hb hr hml hts hown hlocks hmn htab hE hA hP hl
  have hN := hE.N
  have hK := hE.K
  have hown : s.vm.findClass RX2 = some m.cls := hown
  have hl : lv_has ls 4 [(0, .ref (ad 0 0))] := hl
  have hZ : zz_Z K A s ad (zx_c K ad E cap N G L) s.heap := ⟨hE, hA, hP⟩
  have hS : va_S zz_no s.heap s.heap [] := va_S.rf
  obtain ⟨H, hH⟩ : ∃ z, z = s.heap := ⟨_, rfl⟩
  have hS0 : va_S zz_no s.heap H [] := by rw [hH]; exact hS
  rw [← hH] at hZ
  have hE0 := hE
  clear hS
  have hS := hS0
  have hB := hI.B
  have hbk := hI.bk
  have h00 := hI.f
  have h01 := hI.p
  have h02 := hI.b
  have hk0 := hk 0 (by decide)
  have hk1 := hk 1 (by decide)
  have hk2 := hk 2 (by decide)
  show W p l e _ s m _ below meth c s.heap [] 0 0 _ (F0 m 0 ls [])
  rw [← hH]
  refine lv_bipush (v := nI 10) hx hb dX2_giveSeats_0 (by decide) ?_
  refine zz_cv (y := nI (11 - 0) - 1) (zz_nk 10) ?_
  refine lv_istore_n (lv' := [(1, .int (nI (11 - 0) - 1)), (0, .ref (ad 0 0))]) hx hb dX2_giveSeats_2 rfl hl (Nat.le_of_ble_eq_true rfl) rfl (fun ls hl => ?_)
  have hS : va_S A s.heap H _ := zz_Smono hS (fun _ h => h.elim)
  have hL_2 : ∀ (k i : Nat), i ≤ 11 → 11 < i + k → ∀ (H : Heap) (locs : List Loc) (ls : Array Slot), zz_Z K A s ad (zx_c K ad E cap (zs_gd N i) G L) H → va_S A s.heap H locs → lv_has ls 4 [(1, .int (nI (11 - i) - 1)), (0, .ref (ad 0 0))] → W p l e ({ frames := 6, cells := 0, slots := 0, locals := 139 } : Room) s m ([.ref (ad 0 0)] : List Value).toArray below meth c H locs 0 0 (vx_MQ below (zz_Qc (fun v9 _ H9 => v9 = none ∧ zz_W K A ad (zx_c K ad E cap (zs_gd N 11) G L) H9) A) (zz_XC zz_nx) ([.ref (ad 0 0)] : List Value).toArray s ({ frames := 6, cells := 0, slots := 0, locals := 139 } : Room).cells ({ frames := 6, cells := 0, slots := 0, locals := 139 } : Room).slots A) (F0 m 3 ls []) := by
    intro k
    induction k with
    | zero => intro i hi hik; omega
    | succ k ih_i =>
      intro i hii hiki H locs ls hZ hS hl
      refine lv_iload_n hx hb dX2_giveSeats_3 rfl (lv_at hl 0 rfl) ?_
      refine lv_if_lt (tgt := 57) hx hb dX2_giveSeats_4 (by decide) (fun c_3 => ?_) (fun c_3 => ?_)
      · skip
        have h119 := (zk_lt (by omega)).mp c_3
        obtain rfl : i = 11 := by omega
        refine zz_vret hx hb hr hlocks hS (Nat.le_of_ble_eq_true rfl) (Nat.le_of_ble_eq_true rfl) dX2_giveSeats_57 ?_
        refine ⟨?_, ?_⟩
        · skip
          first | rfl | (simp [c_3]; done) | (simp_all; done) | (split <;> first | rfl | omega | (simp_all; done); done)
        · first | exact hZ.W | (refine zx_co ?_ ?_ ?_ ?_ hZ.W <;> first | rfl | (simp [c_3]; done) | (simp_all; done) | (split <;> first | rfl | omega | (simp_all; done); done))
      · skip
        have h119 : 11 - i ≠ 0 := fun z => c_3 ((zk_lt (by omega)).mpr z)
        have hs1 : 11 - i = (10 - i) + 1 := by omega
        rw [hs1, ← zz_nk] at hl
        refine zz_con 0 hx hb dX2_giveSeats_7 (by decide) ?_
        refine lv_istore_n (lv' := [(2, .int (nI 0)), (1, .int (nI (10 - i))), (0, .ref (ad 0 0))]) hx hb dX2_giveSeats_8 rfl hl (Nat.le_of_ble_eq_true rfl) rfl (fun ls hl => ?_)
        have hL_5 : ∀ (k i2 : Nat), i2 ≤ N 0 2 → N 0 2 < i2 + k → ∀ (H : Heap) (locs : List Loc) (ls : Array Slot), zz_Z K A s ad (zx_c K ad E cap (zs_gk (zs_gd N i) (10 - i) i2) G L) H → va_S A s.heap H locs → lv_has ls 4 [(2, .int (nI i2)), (1, .int (nI (10 - i))), (0, .ref (ad 0 0))] → W p l e ({ frames := 6, cells := 0, slots := 0, locals := 139 } : Room) s m ([.ref (ad 0 0)] : List Value).toArray below meth c H locs 0 0 (vx_MQ below (zz_Qc (fun v9 _ H9 => v9 = none ∧ zz_W K A ad (zx_c K ad E cap (zs_gd N 11) G L) H9) A) (zz_XC zz_nx) ([.ref (ad 0 0)] : List Value).toArray s ({ frames := 6, cells := 0, slots := 0, locals := 139 } : Room).cells ({ frames := 6, cells := 0, slots := 0, locals := 139 } : Room).slots A) (F0 m 9 ls []) := by
          intro k
          induction k with
          | zero => intro i hi hik; omega
          | succ k ih_i2 =>
            intro i2 hii2 hiki2 H locs ls hZ hS hl
            have hI := zs_gk_q (zs_gd_q hI i) (10 - i) i2
            have hB := hI.B
            have hbk := hI.bk
            have hk : zk K ad cap (zs_gk (zs_gd N i) (10 - i) i2) := fun t ht => by (rw [zs_gk_k (by decide), zs_gd_k (by decide)]; exact hk t ht)
            have j0 : (zs_gk (zs_gd N i) (10 - i) i2) 0 0 = N 0 0 := by rw [zs_gk_k (by decide), zs_gd_k (by decide)]
            have j1 : (zs_gk (zs_gd N i) (10 - i) i2) 0 1 = N 0 1 := by rw [zs_gk_k (by decide), zs_gd_k (by decide)]
            have j2 : (zs_gk (zs_gd N i) (10 - i) i2) 0 2 = N 0 2 := by rw [zs_gk_k (by decide), zs_gd_k (by decide)]
            have h5 := (hI.sm ((zs_gk (zs_gd N i) (10 - i) i2) 9 i2)).2.2.2.1
            refine lv_iload_n hx hb dX2_giveSeats_9 rfl (lv_at hl 0 rfl) ?_
            refine lv_aload_n hx hb dX2_giveSeats_10 rfl (lv_at hl 2 rfl) ?_
            refine zz_get (ci := 5) (C := RX2) (T := TX2) (N := 8) (v := .ref (ad 1 2)) hx hb hts hown hK (zx_ob hZ.W).1 rfl zf_X2 2 (by decide) zw_61 (fun _ h9 => h9) rfl dX2_giveSeats_11 ?_
            refine zz_after (pc := 14) rfl (zz_runV (ci := 2) (q0 := (RJx4a65c, TJx4a65c, 3)) (b := ad 1 2) (As := []) (rest := [.int (nI i2)]) hx hb hml hown hts (c_Jx4a65c_size_8abf5 l (K := K) (A := A) (ad := ad) (E := E) (cap := cap) (N := (zs_gk (zs_gd N i) (10 - i) i2)) (G := G) (L := L) hk (by decide)) zw_88 zw_89 zw_90 zw_4 zw_91 zd_Jx4a65c_size_8abf5 ⟨Nat.le_of_ble_eq_true rfl, Nat.le_of_ble_eq_true rfl⟩ hZ.E hZ.A (zx_li hZ.W (t := 2) (by decide)).1 rfl rfl hZ.W hl.1 (Nat.le_of_ble_eq_true rfl) dX2_giveSeats_14 ⟨Nat.le_of_ble_eq_true rfl, Nat.le_of_ble_eq_true rfl⟩) hS (fun _ h => h.elim) (fun v_8 H locs hq_6 hF_7 hS => ?_)
            refine W.widen (k := 0) (n := 0) (Nat.le_of_ble_eq_true rfl) (Nat.le_of_ble_eq_true rfl) ?_
            obtain rfl := hq_6
            have hZ := hZ.ro hF_7
            refine W.eq (g2 := F0 m 17 ls [.int (nI ((zs_gk (zs_gd N i) (10 - i) i2) 0 2)), .int (nI i2)]) rfl ?_
            refine zz_ic_ge (tgt := 51) (by first | exact hB _ _ | exact hUa _ | exact hUb _ | exact hUc _ | exact hUd _ | omega) (by first | exact hB _ _ | exact hUa _ | exact hUb _ | exact hUc _ | exact hUd _ | omega) hx hb dX2_giveSeats_17 (by decide) (fun c_9 => ?_) (fun c_9 => ?_)
            · skip
              obtain rfl : i2 = N 0 2 := by omega
              refine lv_iinc (v := nI (10 - i) + (-1)) (k := 1) (lv' := [(1, .int (nI (10 - i) + (-1))), (2, .int (nI (N 0 2))), (0, .ref (ad 0 0))]) hx hb dX2_giveSeats_51 hl rfl (by rfl) (Nat.le_of_ble_eq_true rfl) rfl (fun ls hl => ?_)
              rw [show (.int (nI (10 - i) + (-1)) : Value) = .int (nI (11 - (i + 1)) - 1) from congrArg Value.int (by rw [show 11 - (i + 1) = 10 - i by omega]; exact (Int32.sub_eq_add_neg _ _).symm)] at hl
              refine lv_goto (tgt := 3) hx hb dX2_giveSeats_54 (by decide) ?_
              refine ih_i (i + 1) (by omega) (by omega) _ _ _ ?_ hS ?_
              · exact hZ
              · skip
                exact lv_sub hl [0, 2] rfl
            · skip
              refine lv_aload_n hx hb dX2_giveSeats_20 rfl (lv_at hl 2 rfl) ?_
              refine zz_get (ci := 5) (C := RX2) (T := TX2) (N := 8) (v := .ref (ad 1 2)) hx hb hts hown hK (zx_ob hZ.W).1 rfl zf_X2 2 (by decide) zw_61 (fun _ h9 => h9) rfl dX2_giveSeats_21 ?_
              refine lv_iload_n hx hb dX2_giveSeats_24 rfl (lv_at hl 0 rfl) ?_
              have hj_10 : i2 < (zs_gk (zs_gd N i) (10 - i) i2) 0 2 := by omega
              have hp_11 : (zs_gk (zs_gd N i) (10 - i) i2) 9 i2 < (zs_gk (zs_gd N i) (10 - i) i2) 0 1 := hbk _ hj_10
              refine zz_after (pc := 25) rfl (zz_runV (ci := 2) (q0 := (RJx4a65c, TJx4a65c, 3)) (b := ad 1 2) (As := [.int (nI i2)]) (rest := []) hx hb hml hown hts (c_Jx4a65c_get_915e3 l (K := K) (A := A) (ad := ad) (E := E) (cap := cap) (N := (zs_gk (zs_gd N i) (10 - i) i2)) (G := G) (L := L) hk (by decide) (j := i2) (r := (ad 5 ((zs_gk (zs_gd N i) (10 - i) i2) 9 i2))) hj_10 (zx_g2 hj_10)) zw_101 zw_102 zw_103 zw_4 zw_104 zd_Jx4a65c_get_915e3 ⟨Nat.le_of_ble_eq_true rfl, Nat.le_of_ble_eq_true rfl⟩ hZ.E hZ.A (zx_li hZ.W (t := 2) (by decide)).1 rfl rfl hZ.W hl.1 (Nat.le_of_ble_eq_true rfl) dX2_giveSeats_25 ⟨Nat.le_of_ble_eq_true rfl, Nat.le_of_ble_eq_true rfl⟩) hS (fun _ h => h.elim) (fun v_14 H locs hq_12 hF_13 hS => ?_)
              refine W.widen (k := 0) (n := 0) (Nat.le_of_ble_eq_true rfl) (Nat.le_of_ble_eq_true rfl) ?_
              obtain rfl := hq_12
              have hZ := hZ.ro hF_13
              refine W.eq (g2 := F0 m 28 ls [.ref (ad 5 ((zs_gk (zs_gd N i) (10 - i) i2) 9 i2))]) rfl ?_
              refine va_castS hx hb hown (hts _ zw_129) (hK.1 4 _ rfl).2 (zz_rc hK (zx_pe hZ.W (q := (zs_gk (zs_gd N i) (10 - i) i2) 9 i2) hp_11).1 rfl) dX2_giveSeats_28 ?_
              refine lv_astore_n (lv' := [(3, .ref (ad 5 ((zs_gk (zs_gd N i) (10 - i) i2) 9 i2))), (2, .int (nI i2)), (1, .int (nI (10 - i))), (0, .ref (ad 0 0))]) hx hb dX2_giveSeats_31 rfl hl (Nat.le_of_ble_eq_true rfl) rfl (fun ls hl => ?_)
              refine lv_aload_n hx hb dX2_giveSeats_32 rfl (lv_at hl 0 rfl) ?_
              refine zz_getN (ci := 4) (C := RX1) (T := TX1) (N := 7) (v := .int (nI ((zs_gk (zs_gd N i) (10 - i) i2) 5 ((zs_gk (zs_gd N i) (10 - i) i2) 9 i2)))) hx hb hts hN hown hK (zx_pe hZ.W (q := (zs_gk (zs_gd N i) (10 - i) i2) 9 i2) hp_11).1 rfl zf_X1 2 (by decide) zn_489 (fun _ h9 => h9) rfl dX2_giveSeats_33 ?_
              refine lv_iload_n hx hb dX2_giveSeats_36 rfl (lv_at hl 2 rfl) ?_
              refine zz_ic_ne (tgt := 45) (by first | exact hB _ _ | exact hUa _ | exact hUb _ | exact hUc _ | exact hUd _ | omega) (by first | exact hB _ _ | exact hUa _ | exact hUb _ | exact hUc _ | exact hUd _ | omega) hx hb dX2_giveSeats_37 (by decide) (fun c_15 => ?_) (fun c_15 => ?_)
              · skip
                refine zz_inc (k := 1) (lv' := [(2, .int (nI (i2 + 1))), (3, .ref (ad 5 ((zs_gk (zs_gd N i) (10 - i) i2) 9 i2))), (1, .int (nI (10 - i))), (0, .ref (ad 0 0))]) hx hb dX2_giveSeats_45 hl rfl (Nat.le_of_ble_eq_true rfl) rfl (fun ls hl => ?_)
                refine lv_goto (tgt := 9) hx hb dX2_giveSeats_48 (by decide) ?_
                refine ih_i2 (i2 + 1) (by omega) (by omega) _ _ _ ?_ hS ?_
                · (show zz_Z K A s ad (zx_c K ad E cap (zs_g1 (zs_gk (zs_gd N i) (10 - i) i2) (10 - i) i2) G L) H; unfold zs_g1; first | (rw [if_pos (by assumption)]; exact hZ) | (rw [if_neg (by assumption)]; exact hZ))
                · skip
                  exact lv_sub hl [0, 2, 3] rfl
              · skip
                refine lv_aload_n hx hb dX2_giveSeats_40 rfl (lv_at hl 3 rfl) ?_
                refine lv_aload_n hx hb dX2_giveSeats_41 rfl (lv_at hl 0 rfl) ?_
                refine zz_after (pc := 42) rfl (zz_runV (ci := 5) (q0 := (RX2, TX2, 8)) (b := ad 0 0) (As := [.ref (ad 5 ((zs_gk (zs_gd N i) (10 - i) i2) 9 i2))]) (rest := []) hx hb hml hown hts (c_X2_giveSeat l (K := K) (A := A) (ad := ad) (E := E) (cap := cap) (N := (zs_gk (zs_gd N i) (10 - i) i2)) (G := G) (L := L) hI hk (v := i2) (by omega)) zw_654 zw_656 zs_27 zw_1 zw_657 zd_X2_giveSeat ⟨Nat.le_of_ble_eq_true rfl, Nat.le_of_ble_eq_true rfl⟩ hZ.E hZ.A (zx_ob hZ.W).1 rfl rfl hZ.W hl.1 (Nat.le_of_ble_eq_true rfl) dX2_giveSeats_42 ⟨Nat.le_of_ble_eq_true rfl, Nat.le_of_ble_eq_true rfl⟩) hS (fun _ h => h) (fun v_18 H locs hq_16 hF_17 hS => ?_)
                refine W.widen (k := 0) (n := 0) (Nat.le_of_ble_eq_true rfl) (Nat.le_of_ble_eq_true rfl) ?_
                obtain ⟨rfl, hW9⟩ := hq_16
                have hZ : zz_Z K A s ad (zx_c K ad E cap (zu (zs_gk (zs_gd N i) (10 - i) i2) 6 ((zs_gk (zs_gd N i) (10 - i) i2) 9 i2) (zgv (zs_gk (zs_gd N i) (10 - i) i2) i2 ((zs_gk (zs_gd N i) (10 - i) i2) 0 0))) G L) H := hZ.mut hF_17 hW9
                refine W.eq (g2 := F0 m 45 ls []) rfl ?_
                refine zz_inc (k := 1) (lv' := [(2, .int (nI (i2 + 1))), (3, .ref (ad 5 ((zs_gk (zs_gd N i) (10 - i) i2) 9 i2))), (1, .int (nI (10 - i))), (0, .ref (ad 0 0))]) hx hb dX2_giveSeats_45 hl rfl (Nat.le_of_ble_eq_true rfl) rfl (fun ls hl => ?_)
                refine lv_goto (tgt := 9) hx hb dX2_giveSeats_48 (by decide) ?_
                refine ih_i2 (i2 + 1) (by omega) (by omega) _ _ _ ?_ hS ?_
                · (show zz_Z K A s ad (zx_c K ad E cap (zs_g1 (zs_gk (zs_gd N i) (10 - i) i2) (10 - i) i2) G L) H; unfold zs_g1; first | (rw [if_pos (by assumption)]; exact hZ) | (rw [if_neg (by assumption)]; exact hZ))
                · skip
                  exact lv_sub hl [0, 2, 3] rfl
        refine hL_5 (N 0 2 + 1) 0 (by first | omega | exact Nat.zero_le _) (by first | omega | (rw [Nat.zero_add]; exact Nat.lt_succ_self _)) _ _ _ ?_ hS ?_
        · exact hZ
        exact lv_sub hl [0, 1, 2] rfl
  refine hL_2 (11 + 1) 0 (by first | omega | exact Nat.zero_le _) (by first | omega | (rw [Nat.zero_add]; exact Nat.lt_succ_self _)) _ _ _ ?_ hS ?_
  · exact hZ
  exact lv_sub hl [0, 1] rfl

set_option maxHeartbeats 4000000 in
set_option maxRecDepth 100000 in
theorem c_X2_passHourOn (l : Launch) {K : zz_G} {A : Nat → Prop} {ad : Nat → Nat → Nat} {E : Nat → Nat → Int32} {cap : Nat → Nat} {N : Nat → Nat → Nat} {G : Nat → Nat → Int32} {L : Nat → Int64} (hI : zq N) (hk : zk K ad cap N) {f : Nat} (hf : f < N 0 0) : zz_C l yX2_passHourOn cX2_passHourOn 4 (Option.some FieldType.int) ({ frames := 4, cells := 0, slots := 0, locals := 88 } : Room) K A [.ref (ad 0 0), .ref (ad 3 f)] (fun H => zz_W K A ad (zx_c K ad E cap N G L) H) (fun v9 _ H9 => v9 = some (.int (zw_use (N 3 f) (zins N f) (G 0 f))) ∧ zz_W K A ad (zx_c K ad E cap N (zg (zg G 0 f (G 0 f + zw_chg (N 3 f) (zins N f) (G 0 f))) 1 f (zw_air (N 3 f) (zins N f) (G 1 f))) (zl L 1 (L 1 + (nI (zins N f) * zw_one (G 0 f + zw_chg (N 3 f) (zins N f) (G 0 f)) (zw_air (N 3 f) (zins N f) (G 1 f))).toInt64))) H9) zz_nx A := by
  refine zz_body (by decide +kernel) (Nat.le_of_ble_eq_true rfl) ?_
  intro p e s m below meth c ls hx hb hr hml hts hown hlocks hmn htab hE hA hP hl
  have hN := hE.N
  have hK := hE.K
  have hown : s.vm.findClass RX2 = some m.cls := hown
  have hl : lv_has ls 4 [(0, .ref (ad 0 0)), (1, .ref (ad 3 f))] := hl
  have hZ : zz_Z K A s ad (zx_c K ad E cap N G L) s.heap := ⟨hE, hA, hP⟩
  have hS : va_S zz_no s.heap s.heap [] := va_S.rf
  obtain ⟨H, hH⟩ : ∃ z, z = s.heap := ⟨_, rfl⟩
  have hS0 : va_S zz_no s.heap H [] := by rw [hH]; exact hS
  rw [← hH] at hZ
  have hE0 := hE
  clear hS
  have hS := hS0
  have hB := hI.B
  have hbk := hI.bk
  have h00 := hI.f
  have h01 := hI.p
  have h02 := hI.b
  have hk0 := hk 0 (by decide)
  have hk1 := hk 1 (by decide)
  have hk2 := hk 2 (by decide)
  have hnb := zins_b hI f
  show W p l e _ s m _ below meth c s.heap [] 0 0 _ (F0 m 0 ls [])
  rw [← hH]
  refine lv_aload_n hx hb dX2_passHourOn_0 rfl (lv_at hl 0 rfl) ?_
  refine lv_aload_n hx hb dX2_passHourOn_1 rfl (lv_at hl 1 rfl) ?_
  refine zz_after (pc := 2) rfl (zz_runV (ci := 5) (q0 := (RX2, TX2, 8)) (b := ad 0 0) (As := [.ref (ad 3 f)]) (rest := []) hx hb hml hown hts (c_X2_countPresentOn l (K := K) (A := A) (ad := ad) (E := E) (cap := cap) (N := N) (G := G) (L := L) hI hk hf) zw_735 zw_737 zs_33 zw_1 zw_738 zd_X2_countPresentOn ⟨Nat.le_of_ble_eq_true rfl, Nat.le_of_ble_eq_true rfl⟩ hZ.E hZ.A (zx_ob hZ.W).1 rfl rfl hZ.W hl.1 (Nat.le_of_ble_eq_true rfl) dX2_passHourOn_2 ⟨Nat.le_of_ble_eq_true rfl, Nat.le_of_ble_eq_true rfl⟩) hS (fun _ h => h.elim) (fun v_3 H locs hq_1 hF_2 hS => ?_)
  refine W.widen (k := 0) (n := 0) (Nat.le_of_ble_eq_true rfl) (Nat.le_of_ble_eq_true rfl) ?_
  obtain rfl := hq_1
  have hZ := hZ.ro hF_2
  refine W.eq (g2 := F0 m 5 ls [.int (nI (zins N f))]) rfl ?_
  refine lv_istore_n (lv' := [(2, .int (nI (zins N f))), (0, .ref (ad 0 0)), (1, .ref (ad 3 f))]) hx hb dX2_passHourOn_5 rfl hl (Nat.le_of_ble_eq_true rfl) rfl (fun ls hl => ?_)
  refine lv_aload_n hx hb dX2_passHourOn_6 rfl (lv_at hl 2 rfl) ?_
  refine lv_iload_n hx hb dX2_passHourOn_7 rfl (lv_at hl 0 rfl) ?_
  have hS : va_S A s.heap H _ := zz_Smono hS (fun _ h => h.elim)
  refine zz_after (pc := 8) rfl (zz_runV (ci := 3) (q0 := (RX0, TX0, 7)) (b := ad 3 f) (As := [.int (nI (zins N f))]) (rest := []) hx hb hml hown hts (c_X0_followWarmth l (K := K) (A := A) (ad := ad) (E := E) (cap := cap) (N := N) (G := G) (L := L) hI hf (by omega)) zw_739 zw_740 zw_741 zw_11 zw_742 zd_X0_followWarmth ⟨Nat.le_of_ble_eq_true rfl, Nat.le_of_ble_eq_true rfl⟩ hZ.E hZ.A (zx_fl hZ.W (f := f) hf).1 rfl rfl hZ.W hl.1 (Nat.le_of_ble_eq_true rfl) dX2_passHourOn_8 ⟨Nat.le_of_ble_eq_true rfl, Nat.le_of_ble_eq_true rfl⟩) hS (fun _ h => h) (fun v_6 H locs hq_4 hF_5 hS => ?_)
  refine W.widen (k := 0) (n := 0) (Nat.le_of_ble_eq_true rfl) (Nat.le_of_ble_eq_true rfl) ?_
  obtain ⟨rfl, hW9⟩ := hq_4
  have hZ : zz_Z K A s ad (zx_c K ad E cap N (zg G 0 f (G 0 f + zw_chg (N 3 f) (zins N f) (G 0 f))) L) H := hZ.mut hF_5 hW9
  refine W.eq (g2 := F0 m 11 ls [.int (zw_use (N 3 f) (zins N f) (G 0 f))]) rfl ?_
  refine lv_istore_n (lv' := [(3, .int (zw_use (N 3 f) (zins N f) (G 0 f))), (2, .int (nI (zins N f))), (0, .ref (ad 0 0)), (1, .ref (ad 3 f))]) hx hb dX2_passHourOn_11 rfl hl (Nat.le_of_ble_eq_true rfl) rfl (fun ls hl => ?_)
  refine lv_aload_n hx hb dX2_passHourOn_12 rfl (lv_at hl 3 rfl) ?_
  refine lv_iload_n hx hb dX2_passHourOn_13 rfl (lv_at hl 1 rfl) ?_
  refine zz_after (pc := 14) rfl (zz_runV (ci := 3) (q0 := (RX0, TX0, 7)) (b := ad 3 f) (As := [.int (nI (zins N f))]) (rest := []) hx hb hml hown hts (c_X0_followAir l (K := K) (A := A) (ad := ad) (E := E) (cap := cap) (N := N) (G := (zg G 0 f (G 0 f + zw_chg (N 3 f) (zins N f) (G 0 f)))) (L := L) hI hf (by omega)) zw_743 zw_744 zw_745 zw_11 zw_746 zd_X0_followAir ⟨Nat.le_of_ble_eq_true rfl, Nat.le_of_ble_eq_true rfl⟩ hZ.E hZ.A (zx_fl hZ.W (f := f) hf).1 rfl rfl hZ.W hl.1 (Nat.le_of_ble_eq_true rfl) dX2_passHourOn_14 ⟨Nat.le_of_ble_eq_true rfl, Nat.le_of_ble_eq_true rfl⟩) hS (fun _ h => h) (fun v_9 H locs hq_7 hF_8 hS => ?_)
  refine W.widen (k := 0) (n := 0) (Nat.le_of_ble_eq_true rfl) (Nat.le_of_ble_eq_true rfl) ?_
  obtain ⟨rfl, hW9⟩ := hq_7
  have hZ : zz_Z K A s ad (zx_c K ad E cap N (zg (zg G 0 f (G 0 f + zw_chg (N 3 f) (zins N f) (G 0 f))) 1 f (zw_air (N 3 f) (zins N f) ((zg G 0 f (G 0 f + zw_chg (N 3 f) (zins N f) (G 0 f))) 1 f))) L) H := hZ.mut hF_8 hW9
  refine W.eq (g2 := F0 m 17 ls []) rfl ?_
  refine lv_aload_n hx hb dX2_passHourOn_17 rfl (lv_at hl 2 rfl) ?_
  refine lv_dup hx hb dX2_passHourOn_18 rfl ?_
  refine zz_get (ci := 5) (C := RX2) (T := TX2) (N := 8) (v := .long (L 1)) hx hb hts hown hK (zx_ob hZ.W).1 rfl zf_X2 6 (by decide) zw_65 (fun _ h9 => h9) rfl dX2_passHourOn_19 ?_
  refine lv_iload_n hx hb dX2_passHourOn_22 rfl (lv_at hl 1 rfl) ?_
  refine lv_aload_n hx hb dX2_passHourOn_23 rfl (lv_at hl 3 rfl) ?_
  refine zz_after (pc := 24) rfl (zz_runV (ci := 3) (q0 := (RX0, TX0, 7)) (b := ad 3 f) (As := []) (rest := [.int (nI (zins N f)), .long (L 1), .ref (ad 0 0)]) hx hb hml hown hts (c_X0_discomfortOfOnePerson l (K := K) (A := A) (ad := ad) (E := E) (cap := cap) (N := N) (G := (zg (zg G 0 f (G 0 f + zw_chg (N 3 f) (zins N f) (G 0 f))) 1 f (zw_air (N 3 f) (zins N f) ((zg G 0 f (G 0 f + zw_chg (N 3 f) (zins N f) (G 0 f))) 1 f)))) (L := L) hI hf) zw_748 zw_749 zw_750 zw_11 zw_751 zd_X0_discomfortOfOnePerson ⟨Nat.le_of_ble_eq_true rfl, Nat.le_of_ble_eq_true rfl⟩ hZ.E hZ.A (zx_fl hZ.W (f := f) hf).1 rfl rfl hZ.W hl.1 (Nat.le_of_ble_eq_true rfl) dX2_passHourOn_24 ⟨Nat.le_of_ble_eq_true rfl, Nat.le_of_ble_eq_true rfl⟩) hS (fun _ h => h.elim) (fun v_12 H locs hq_10 hF_11 hS => ?_)
  refine W.widen (k := 0) (n := 0) (Nat.le_of_ble_eq_true rfl) (Nat.le_of_ble_eq_true rfl) ?_
  obtain rfl := hq_10
  have hZ := hZ.ro hF_11
  refine W.eq (g2 := F0 m 27 ls [.int (zw_one ((zg (zg G 0 f (G 0 f + zw_chg (N 3 f) (zins N f) (G 0 f))) 1 f (zw_air (N 3 f) (zins N f) ((zg G 0 f (G 0 f + zw_chg (N 3 f) (zins N f) (G 0 f))) 1 f))) 0 f) ((zg (zg G 0 f (G 0 f + zw_chg (N 3 f) (zins N f) (G 0 f))) 1 f (zw_air (N 3 f) (zins N f) ((zg G 0 f (G 0 f + zw_chg (N 3 f) (zins N f) (G 0 f))) 1 f))) 1 f)), .int (nI (zins N f)), .long (L 1), .ref (ad 0 0)]) rfl ?_
  refine lv_imul hx hb dX2_passHourOn_27 ?_
  refine lv_i2l hx hb dX2_passHourOn_28 rfl ?_
  refine lv_ladd hx hb dX2_passHourOn_29 ?_
  have haA_16 := (zx_ob hZ.W).2
  refine zz_put (ci := 5) (C := RX2) (T := TX2) (N := 8) (v := .long ((L 1) + (Int32.toInt64 ((nI (zins N f)) * (zw_one ((zg (zg G 0 f (G 0 f + zw_chg (N 3 f) (zins N f) (G 0 f))) 1 f (zw_air (N 3 f) (zins N f) ((zg G 0 f (G 0 f + zw_chg (N 3 f) (zins N f) (G 0 f))) 1 f))) 0 f) ((zg (zg G 0 f (G 0 f + zw_chg (N 3 f) (zins N f) (G 0 f))) 1 f (zw_air (N 3 f) (zins N f) ((zg G 0 f (G 0 f + zw_chg (N 3 f) (zins N f) (G 0 f))) 1 f))) 1 f)))))) (ty1 := .long) hx hb hts hown hK hS (zx_ob hZ.W).1 haA_16 rfl zf_X2 tyX2_ok nmX2 6 (by decide) zw_65 (fun _ h9 => h9) rfl (by decide +kernel) rfl rfl (Nat.le_of_ble_eq_true rfl) dX2_passHourOn_30 (fun H locs ha_14 hz_15 ho_13 hS => ?_)
  have hZ : zz_Z K A s ad (zx_c K ad E cap N (zg (zg G 0 f (G 0 f + zw_chg (N 3 f) (zins N f) (G 0 f))) 1 f (zw_air (N 3 f) (zins N f) ((zg G 0 f (G 0 f + zw_chg (N 3 f) (zins N f) (G 0 f))) 1 f))) (zl L 1 ((L 1) + (Int32.toInt64 ((nI (zins N f)) * (zw_one ((zg (zg G 0 f (G 0 f + zw_chg (N 3 f) (zins N f) (G 0 f))) 1 f (zw_air (N 3 f) (zins N f) ((zg G 0 f (G 0 f + zw_chg (N 3 f) (zins N f) (G 0 f))) 1 f))) 0 f) ((zg (zg G 0 f (G 0 f + zw_chg (N 3 f) (zins N f) (G 0 f))) 1 f (zw_air (N 3 f) (zins N f) ((zg G 0 f (G 0 f + zw_chg (N 3 f) (zins N f) (G 0 f))) 1 f))) 1 f))))))) H := hZ.put haA_16 hz_15 ho_13 (zx_put_discomfort hZ.W ha_14 ho_13)
  refine lv_iload_n hx hb dX2_passHourOn_33 rfl (lv_at hl 0 rfl) ?_
  refine zz_iret hx hb hr hlocks hS (Nat.le_of_ble_eq_true rfl) (Nat.le_of_ble_eq_true rfl) dX2_passHourOn_34 ?_
  refine ⟨?_, ?_⟩
  · skip
    rfl
  · (have e1 : zg G 0 f (G 0 f + zw_chg (N 3 f) (zins N f) (G 0 f)) 1 f = G 1 f := zg_n (by omega); have e2 : zg (zg G 0 f (G 0 f + zw_chg (N 3 f) (zins N f) (G 0 f))) 1 f (zw_air (N 3 f) (zins N f) (zg G 0 f (G 0 f + zw_chg (N 3 f) (zins N f) (G 0 f)) 1 f)) 0 f = (G 0 f + zw_chg (N 3 f) (zins N f) (G 0 f)) := (by rw [zg_n (by omega), zg_s]); have e3 : zg (zg G 0 f (G 0 f + zw_chg (N 3 f) (zins N f) (G 0 f))) 1 f (zw_air (N 3 f) (zins N f) (zg G 0 f (G 0 f + zw_chg (N 3 f) (zins N f) (G 0 f)) 1 f)) 1 f = (zw_air (N 3 f) (zins N f) (G 1 f)) := (by rw [zg_s, e1]); have hW9 := hZ.W; rw [e2, e3, e1] at hW9; exact hW9)

set_option maxHeartbeats 4000000 in
set_option maxRecDepth 100000 in
theorem c_X2_pass (l : Launch) (hfl : l.stackTraces = false) {K : zz_G} {A : Nat → Prop} {ad : Nat → Nat → Nat} {E : Nat → Nat → Int32} {cap : Nat → Nat} {N : Nat → Nat → Nat} {G : Nat → Nat → Int32} {L : Nat → Int64} (hI : zq N) (hk : zk K ad cap N) (x : Int32) : zz_C l yX2_pass cX2_pass 5 (Option.some FieldType.int) ({ frames := 6, cells := 1, slots := 6, locals := 111 } : Room) K A [.ref (ad 0 0), .int x] (fun H => zz_W K A ad (zx_c K ad E cap N G L) H) (fun v9 _ H9 => (zs_pass N G L x).1 = 0 ∧ v9 = some (.int (zs_pass N G L x).2.1) ∧ zz_W K A ad (zx_c K ad E cap N (zs_pass N G L x).2.2.1 (zs_pass N G L x).2.2.2) H9) (fun E9 _ _ => (E9 = "java/lang/IllegalArgumentException" ∧ (zs_pass N G L x).1 = 1)) A := by
  refine zz_body (by decide +kernel) (Nat.le_of_ble_eq_true rfl) ?_
  intro p e s m below meth c ls hx hb hr hml hts hown hlocks hmn htab hE hA hP hl
  have hN := hE.N
  have hK := hE.K
  have hown : s.vm.findClass RX2 = some m.cls := hown
  have hl : lv_has ls 5 [(0, .ref (ad 0 0)), (1, .int x)] := hl
  have hZ : zz_Z K A s ad (zx_c K ad E cap N G L) s.heap := ⟨hE, hA, hP⟩
  have hS : va_S zz_no s.heap s.heap [] := va_S.rf
  obtain ⟨H, hH⟩ : ∃ z, z = s.heap := ⟨_, rfl⟩
  have hS0 : va_S zz_no s.heap H [] := by rw [hH]; exact hS
  rw [← hH] at hZ
  have hE0 := hE
  clear hS
  have hS := hS0
  have hB := hI.B
  have hbk := hI.bk
  have h00 := hI.f
  have h01 := hI.p
  have h02 := hI.b
  have hk0 := hk 0 (by decide)
  have hk1 := hk 1 (by decide)
  have hk2 := hk 2 (by decide)
  show W p l e _ s m _ below meth c s.heap [] 0 0 _ (F0 m 0 ls [])
  rw [← hH]
  refine lv_iload_n hx hb dX2_pass_0 rfl (lv_at hl 1 rfl) ?_
  refine zz_con 1 hx hb dX2_pass_1 (by decide) ?_
  refine lv_icmp_lt (tgt := 11) hx hb dX2_pass_2 (by decide) (fun c_1 => ?_) (fun c_1 => ?_)
  · skip
    refine zz_throw (cls := "java/lang/IllegalArgumentException") (is := 201) hx hb hfl hown hts hE0 zx_45 zw_236 zw_9 zt_201 hS (fun _ h => h) hl.1 hml dX2_pass_11 dX2_pass_14 dX2_pass_15 dX2_pass_17 dX2_pass_20 htab (Nat.le_of_ble_eq_true rfl) (Nat.le_of_ble_eq_true rfl) (Nat.le_of_ble_eq_true rfl) (Nat.le_of_ble_eq_true rfl) hlocks (fun H9 hf9 => ?_) (Nat.le_of_ble_eq_true rfl) (Nat.le_of_ble_eq_true rfl)
    exact ⟨rfl, by (unfold zs_pass; rw [if_pos (fun h => by first | exact absurd h.1 (Int32.not_le.mpr (by assumption)) | exact absurd h.2 (by assumption))])⟩
  · skip
    refine lv_iload_n hx hb dX2_pass_5 rfl (lv_at hl 1 rfl) ?_
    refine lv_bipush (v := nI 24) hx hb dX2_pass_6 (by decide) ?_
    refine lv_icmp_le (tgt := 21) hx hb dX2_pass_8 (by decide) (fun c_2 => ?_) (fun c_2 => ?_)
    · skip
      obtain ⟨j, hj, rfl⟩ := zz_rng2 (a := 1) (b := 24) (by decide) (by decide) ⟨Int32.not_lt.mp (by assumption), c_2⟩
      have hjc : (nI j).toNatClampNeg = j := nI_clamp (by omega)
      have hjb : j < 2 ^ 31 := by omega
      have hj1 : 1 ≤ j := (nI_leI (by decide) (by omega)).mp (Int32.not_lt.mp (by assumption))
      refine zz_con 0 hx hb dX2_pass_21 (by decide) ?_
      refine lv_istore_n (lv' := [(2, .int (nI 0)), (0, .ref (ad 0 0)), (1, .int (nI j))]) hx hb dX2_pass_22 rfl hl (Nat.le_of_ble_eq_true rfl) rfl (fun ls hl => ?_)
      refine zz_con 0 hx hb dX2_pass_23 (by decide) ?_
      refine lv_istore_n (lv' := [(3, .int (nI 0)), (2, .int (nI 0)), (0, .ref (ad 0 0)), (1, .int (nI j))]) hx hb dX2_pass_24 rfl hl (Nat.le_of_ble_eq_true rfl) rfl (fun ls hl => ?_)
      have hS : va_S A s.heap H _ := zz_Smono hS (fun _ h => h.elim)
      have hL_4 : ∀ (k i : Nat), i ≤ j → j < i + k → ∀ (H : Heap) (locs : List Loc) (ls : Array Slot), zz_Z K A s ad (zx_c K ad E cap N ((zhh N (G, L, nI 0) i).1) ((zhh N (G, L, nI 0) i).2.1)) H → va_S A s.heap H locs → lv_has ls 5 [(3, .int (nI i)), (2, .int ((zhh N (G, L, nI 0) i).2.2)), (0, .ref (ad 0 0)), (1, .int (nI j))] → W p l e ({ frames := 6, cells := 1, slots := 6, locals := 111 } : Room) s m ([.ref (ad 0 0), .int (nI j)] : List Value).toArray below meth c H locs 0 0 (vx_MQ below (zz_Qc (fun v9 _ H9 => (zs_pass N G L (nI j)).1 = 0 ∧ v9 = some (.int (zs_pass N G L (nI j)).2.1) ∧ zz_W K A ad (zx_c K ad E cap N (zs_pass N G L (nI j)).2.2.1 (zs_pass N G L (nI j)).2.2.2) H9) A) (zz_XC (fun E9 _ _ => (E9 = "java/lang/IllegalArgumentException" ∧ (zs_pass N G L (nI j)).1 = 1))) ([.ref (ad 0 0), .int (nI j)] : List Value).toArray s ({ frames := 6, cells := 1, slots := 6, locals := 111 } : Room).cells ({ frames := 6, cells := 1, slots := 6, locals := 111 } : Room).slots A) (F0 m 25 ls []) := by
        intro k
        induction k with
        | zero => intro i hi hik; omega
        | succ k ih_i =>
          intro i hii hiki H locs ls hZ hS hl
          refine lv_iload_n hx hb dX2_pass_25 rfl (lv_at hl 0 rfl) ?_
          refine lv_iload_n hx hb dX2_pass_26 rfl (lv_at hl 3 rfl) ?_
          refine zz_ic_ge (tgt := 76) (by first | exact hB _ _ | exact hUa _ | exact hUb _ | exact hUc _ | exact hUd _ | omega) (by first | exact hB _ _ | exact hUa _ | exact hUb _ | exact hUc _ | exact hUd _ | omega) hx hb dX2_pass_27 (by decide) (fun c_5 => ?_) (fun c_5 => ?_)
          · skip
            obtain rfl : j = i := by omega
            refine lv_aload_n hx hb dX2_pass_76 rfl (lv_at hl 2 rfl) ?_
            refine lv_dup hx hb dX2_pass_77 rfl ?_
            refine zz_get (ci := 5) (C := RX2) (T := TX2) (N := 8) (v := .long ((zhh N (G, L, nI 0) j).2.1 0)) hx hb hts hown hK (zx_ob hZ.W).1 rfl zf_X2 5 (by decide) zw_64 (fun _ h9 => h9) rfl dX2_pass_78 ?_
            refine lv_iload_n hx hb dX2_pass_81 rfl (lv_at hl 1 rfl) ?_
            refine lv_i2l hx hb dX2_pass_82 rfl ?_
            refine lv_ladd hx hb dX2_pass_83 ?_
            have haA_9 := (zx_ob hZ.W).2
            refine zz_put (ci := 5) (C := RX2) (T := TX2) (N := 8) (v := .long (((zhh N (G, L, nI 0) j).2.1 0) + (Int32.toInt64 ((zhh N (G, L, nI 0) j).2.2)))) (ty1 := .long) hx hb hts hown hK hS (zx_ob hZ.W).1 haA_9 rfl zf_X2 tyX2_ok nmX2 5 (by decide) zw_64 (fun _ h9 => h9) rfl (by decide +kernel) rfl rfl (Nat.le_of_ble_eq_true rfl) dX2_pass_84 (fun H locs ha_7 hz_8 ho_6 hS => ?_)
            have hZ : zz_Z K A s ad (zx_c K ad E cap N ((zhh N (G, L, nI 0) j).1) (zl (zhh N (G, L, nI 0) j).2.1 0 (((zhh N (G, L, nI 0) j).2.1 0) + (Int32.toInt64 ((zhh N (G, L, nI 0) j).2.2))))) H := hZ.put haA_9 hz_8 ho_6 (zx_put_energy hZ.W ha_7 ho_6)
            refine lv_iload_n hx hb dX2_pass_87 rfl (lv_at hl 1 rfl) ?_
            refine zz_iret hx hb hr hlocks hS (Nat.le_of_ble_eq_true rfl) (Nat.le_of_ble_eq_true rfl) dX2_pass_88 ?_
            have hzj := (zbw_nI (a := 1) (b := 24) (show j < 2 ^ 31 by omega) (by decide) (by decide)).mpr ⟨by omega, by omega⟩
            have e9 : (zs_pass N G L (nI j)) = (0, (zhh N (G, L, nI 0) j).2.2, (zhh N (G, L, nI 0) j).1, (zl (zhh N (G, L, nI 0) j).2.1 0 (((zhh N (G, L, nI 0) j).2.1 0) + (Int32.toInt64 ((zhh N (G, L, nI 0) j).2.2))))) := by (unfold zs_pass; rw [if_neg (fun h => h hzj), hjc])
            rw [e9]; exact ⟨rfl, rfl, hZ.W⟩
          · skip
            refine zz_con 0 hx hb dX2_pass_30 (by decide) ?_
            refine lv_istore (lv' := [(4, .int (nI 0)), (3, .int (nI i)), (2, .int ((zhh N (G, L, nI 0) i).2.2)), (0, .ref (ad 0 0)), (1, .int (nI j))]) hx hb dX2_pass_31 hl (Nat.le_of_ble_eq_true rfl) rfl (fun ls hl => ?_)
            have hL_11 : ∀ (k i2 : Nat), i2 ≤ N 0 0 → N 0 0 < i2 + k → ∀ (H : Heap) (locs : List Loc) (ls : Array Slot), zz_Z K A s ad (zx_c K ad E cap N ((zhf N (zhh N (G, L, nI 0) i) i2).1) ((zhf N (zhh N (G, L, nI 0) i) i2).2.1)) H → va_S A s.heap H locs → lv_has ls 5 [(4, .int (nI i2)), (3, .int (nI i)), (2, .int ((zhf N (zhh N (G, L, nI 0) i) i2).2.2)), (0, .ref (ad 0 0)), (1, .int (nI j))] → W p l e ({ frames := 6, cells := 1, slots := 6, locals := 111 } : Room) s m ([.ref (ad 0 0), .int (nI j)] : List Value).toArray below meth c H locs 0 0 (vx_MQ below (zz_Qc (fun v9 _ H9 => (zs_pass N G L (nI j)).1 = 0 ∧ v9 = some (.int (zs_pass N G L (nI j)).2.1) ∧ zz_W K A ad (zx_c K ad E cap N (zs_pass N G L (nI j)).2.2.1 (zs_pass N G L (nI j)).2.2.2) H9) A) (zz_XC (fun E9 _ _ => (E9 = "java/lang/IllegalArgumentException" ∧ (zs_pass N G L (nI j)).1 = 1))) ([.ref (ad 0 0), .int (nI j)] : List Value).toArray s ({ frames := 6, cells := 1, slots := 6, locals := 111 } : Room).cells ({ frames := 6, cells := 1, slots := 6, locals := 111 } : Room).slots A) (F0 m 33 ls []) := by
              intro k
              induction k with
              | zero => intro i hi hik; omega
              | succ k ih_i2 =>
                intro i2 hii2 hiki2 H locs ls hZ hS hl
                refine lv_iload hx hb dX2_pass_33 (lv_at hl 0 rfl) ?_
                refine lv_aload_n hx hb dX2_pass_35 rfl (lv_at hl 3 rfl) ?_
                refine zz_get (ci := 5) (C := RX2) (T := TX2) (N := 8) (v := .ref (ad 1 0)) hx hb hts hown hK (zx_ob hZ.W).1 rfl zf_X2 0 (by decide) zw_59 (fun _ h9 => h9) rfl dX2_pass_36 ?_
                refine zz_after (pc := 39) rfl (zz_runV (ci := 2) (q0 := (RJx4a65c, TJx4a65c, 3)) (b := ad 1 0) (As := []) (rest := [.int (nI i2)]) hx hb hml hown hts (c_Jx4a65c_size_8abf5 l (K := K) (A := A) (ad := ad) (E := E) (cap := cap) (N := N) (G := (zhf N (zhh N (G, L, nI 0) i) i2).1) (L := (zhf N (zhh N (G, L, nI 0) i) i2).2.1) hk (by decide)) zw_88 zw_89 zw_90 zw_4 zw_91 zd_Jx4a65c_size_8abf5 ⟨Nat.le_of_ble_eq_true rfl, Nat.le_of_ble_eq_true rfl⟩ hZ.E hZ.A (zx_li hZ.W (t := 0) (by decide)).1 rfl rfl hZ.W hl.1 (Nat.le_of_ble_eq_true rfl) dX2_pass_39 ⟨Nat.le_of_ble_eq_true rfl, Nat.le_of_ble_eq_true rfl⟩) hS (fun _ h => h.elim) (fun v_14 H locs hq_12 hF_13 hS => ?_)
                refine W.widen (k := 0) (n := 0) (Nat.le_of_ble_eq_true rfl) (Nat.le_of_ble_eq_true rfl) ?_
                obtain rfl := hq_12
                have hZ := hZ.ro hF_13
                refine W.eq (g2 := F0 m 42 ls [.int (nI (N 0 0)), .int (nI i2)]) rfl ?_
                refine zz_ic_ge (tgt := 70) (by first | exact hB _ _ | exact hUa _ | exact hUb _ | exact hUc _ | exact hUd _ | omega) (by first | exact hB _ _ | exact hUa _ | exact hUb _ | exact hUc _ | exact hUd _ | omega) hx hb dX2_pass_42 (by decide) (fun c_15 => ?_) (fun c_15 => ?_)
                · skip
                  obtain rfl : i2 = N 0 0 := by omega
                  refine zz_inc (k := 1) (lv' := [(3, .int (nI (i + 1))), (4, .int (nI (N 0 0))), (2, .int ((zhf N (zhh N (G, L, nI 0) i) (N 0 0)).2.2)), (0, .ref (ad 0 0)), (1, .int (nI j))]) hx hb dX2_pass_70 hl rfl (Nat.le_of_ble_eq_true rfl) rfl (fun ls hl => ?_)
                  refine lv_goto (tgt := 25) hx hb dX2_pass_73 (by decide) ?_
                  refine ih_i (i + 1) (by omega) (by omega) _ _ _ ?_ hS ?_
                  · exact hZ
                  · skip
                    rw [show (.int ((zhh N (G, L, nI 0) (i + 1)).2.2) : Value) = .int ((zhf N (zhh N (G, L, nI 0) i) (N 0 0)).2.2) from congrArg Value.int (by first | rfl | (rfl; done))]
                    exact lv_sub hl [0, 2, 3, 4] rfl
                · skip
                  refine lv_iload_n hx hb dX2_pass_45 rfl (lv_at hl 2 rfl) ?_
                  refine lv_aload_n hx hb dX2_pass_46 rfl (lv_at hl 3 rfl) ?_
                  refine lv_aload_n hx hb dX2_pass_47 rfl (lv_at hl 3 rfl) ?_
                  refine zz_get (ci := 5) (C := RX2) (T := TX2) (N := 8) (v := .ref (ad 1 0)) hx hb hts hown hK (zx_ob hZ.W).1 rfl zf_X2 0 (by decide) zw_59 (fun _ h9 => h9) rfl dX2_pass_48 ?_
                  refine lv_iload hx hb dX2_pass_51 (lv_at hl 0 rfl) ?_
                  have hj_16 : i2 < N 0 0 := by omega
                  refine zz_after (pc := 53) rfl (zz_runV (ci := 2) (q0 := (RJx4a65c, TJx4a65c, 3)) (b := ad 1 0) (As := [.int (nI i2)]) (rest := [.ref (ad 0 0), .int ((zhf N (zhh N (G, L, nI 0) i) i2).2.2)]) hx hb hml hown hts (c_Jx4a65c_get_915e3 l (K := K) (A := A) (ad := ad) (E := E) (cap := cap) (N := N) (G := (zhf N (zhh N (G, L, nI 0) i) i2).1) (L := (zhf N (zhh N (G, L, nI 0) i) i2).2.1) hk (by decide) (j := i2) (r := (ad 3 i2)) hj_16 (zx_g0 hj_16)) zw_101 zw_102 zw_103 zw_4 zw_104 zd_Jx4a65c_get_915e3 ⟨Nat.le_of_ble_eq_true rfl, Nat.le_of_ble_eq_true rfl⟩ hZ.E hZ.A (zx_li hZ.W (t := 0) (by decide)).1 rfl rfl hZ.W hl.1 (Nat.le_of_ble_eq_true rfl) dX2_pass_53 ⟨Nat.le_of_ble_eq_true rfl, Nat.le_of_ble_eq_true rfl⟩) hS (fun _ h => h.elim) (fun v_19 H locs hq_17 hF_18 hS => ?_)
                  refine W.widen (k := 0) (n := 0) (Nat.le_of_ble_eq_true rfl) (Nat.le_of_ble_eq_true rfl) ?_
                  obtain rfl := hq_17
                  have hZ := hZ.ro hF_18
                  refine W.eq (g2 := F0 m 56 ls [.ref (ad 3 i2), .ref (ad 0 0), .int ((zhf N (zhh N (G, L, nI 0) i) i2).2.2)]) rfl ?_
                  refine va_castS hx hb hown (hts _ zw_115) (hK.1 3 _ rfl).2 (zz_rc hK (zx_fl hZ.W (f := i2) hj_16).1 rfl) dX2_pass_56 ?_
                  refine zz_after (pc := 59) rfl (zz_runV (ci := 5) (q0 := (RX2, TX2, 8)) (b := ad 0 0) (As := [.ref (ad 3 i2)]) (rest := [.int ((zhf N (zhh N (G, L, nI 0) i) i2).2.2)]) hx hb hml hown hts (c_X2_passHourOn l (K := K) (A := A) (ad := ad) (E := E) (cap := cap) (N := N) (G := (zhf N (zhh N (G, L, nI 0) i) i2).1) (L := (zhf N (zhh N (G, L, nI 0) i) i2).2.1) hI hk hj_16) zw_731 zw_733 zs_32 zw_1 zw_734 zd_X2_passHourOn ⟨Nat.le_of_ble_eq_true rfl, Nat.le_of_ble_eq_true rfl⟩ hZ.E hZ.A (zx_ob hZ.W).1 rfl rfl hZ.W hl.1 (Nat.le_of_ble_eq_true rfl) dX2_pass_59 ⟨Nat.le_of_ble_eq_true rfl, Nat.le_of_ble_eq_true rfl⟩) hS (fun _ h => h) (fun v_22 H locs hq_20 hF_21 hS => ?_)
                  refine W.widen (k := 0) (n := 0) (Nat.le_of_ble_eq_true rfl) (Nat.le_of_ble_eq_true rfl) ?_
                  obtain ⟨rfl, hW9⟩ := hq_20
                  have hZ : zz_Z K A s ad (zx_c K ad E cap N (zg (zg (zhf N (zhh N (G, L, nI 0) i) i2).1 0 i2 ((zhf N (zhh N (G, L, nI 0) i) i2).1 0 i2 + zw_chg (N 3 i2) (zins N i2) ((zhf N (zhh N (G, L, nI 0) i) i2).1 0 i2))) 1 i2 (zw_air (N 3 i2) (zins N i2) ((zhf N (zhh N (G, L, nI 0) i) i2).1 1 i2))) (zl (zhf N (zhh N (G, L, nI 0) i) i2).2.1 1 ((zhf N (zhh N (G, L, nI 0) i) i2).2.1 1 + (nI (zins N i2) * zw_one ((zhf N (zhh N (G, L, nI 0) i) i2).1 0 i2 + zw_chg (N 3 i2) (zins N i2) ((zhf N (zhh N (G, L, nI 0) i) i2).1 0 i2)) (zw_air (N 3 i2) (zins N i2) ((zhf N (zhh N (G, L, nI 0) i) i2).1 1 i2))).toInt64))) H := hZ.mut hF_21 hW9
                  refine W.eq (g2 := F0 m 62 ls [.int (zw_use (N 3 i2) (zins N i2) ((zhf N (zhh N (G, L, nI 0) i) i2).1 0 i2)), .int ((zhf N (zhh N (G, L, nI 0) i) i2).2.2)]) rfl ?_
                  refine lv_iadd hx hb dX2_pass_62 ?_
                  refine lv_istore_n (lv' := [(2, .int (((zhf N (zhh N (G, L, nI 0) i) i2).2.2) + (zw_use (N 3 i2) (zins N i2) ((zhf N (zhh N (G, L, nI 0) i) i2).1 0 i2)))), (4, .int (nI i2)), (3, .int (nI i)), (0, .ref (ad 0 0)), (1, .int (nI j))]) hx hb dX2_pass_63 rfl hl (Nat.le_of_ble_eq_true rfl) rfl (fun ls hl => ?_)
                  refine zz_inc (k := 1) (lv' := [(4, .int (nI (i2 + 1))), (2, .int (((zhf N (zhh N (G, L, nI 0) i) i2).2.2) + (zw_use (N 3 i2) (zins N i2) ((zhf N (zhh N (G, L, nI 0) i) i2).1 0 i2)))), (3, .int (nI i)), (0, .ref (ad 0 0)), (1, .int (nI j))]) hx hb dX2_pass_64 hl rfl (Nat.le_of_ble_eq_true rfl) rfl (fun ls hl => ?_)
                  refine lv_goto (tgt := 33) hx hb dX2_pass_67 (by decide) ?_
                  refine ih_i2 (i2 + 1) (by omega) (by omega) _ _ _ ?_ hS ?_
                  · exact hZ
                  · skip
                    rw [show (.int ((zhf N (zhh N (G, L, nI 0) i) (i2 + 1)).2.2) : Value) = .int (((zhf N (zhh N (G, L, nI 0) i) i2).2.2) + (zw_use (N 3 i2) (zins N i2) ((zhf N (zhh N (G, L, nI 0) i) i2).1 0 i2))) from congrArg Value.int (by first | rfl | (rfl; done))]
                    exact lv_sub hl [0, 2, 1, 3, 4] rfl
            refine hL_11 (N 0 0 + 1) 0 (by first | omega | exact Nat.zero_le _) (by first | omega | (rw [Nat.zero_add]; exact Nat.lt_succ_self _)) _ _ _ ?_ hS ?_
            · exact hZ
            exact lv_sub (show lv_has _ _ _ from hl) [0, 1, 2, 3, 4] rfl
      refine hL_4 (j + 1) 0 (by first | omega | exact Nat.zero_le _) (by first | omega | (rw [Nat.zero_add]; exact Nat.lt_succ_self _)) _ _ _ ?_ hS ?_
      · exact hZ
      exact lv_sub (show lv_has _ _ _ from hl) [0, 1, 2, 3] rfl
    · skip
      refine zz_throw (cls := "java/lang/IllegalArgumentException") (is := 201) hx hb hfl hown hts hE0 zx_45 zw_236 zw_9 zt_201 hS (fun _ h => h) hl.1 hml dX2_pass_11 dX2_pass_14 dX2_pass_15 dX2_pass_17 dX2_pass_20 htab (Nat.le_of_ble_eq_true rfl) (Nat.le_of_ble_eq_true rfl) (Nat.le_of_ble_eq_true rfl) (Nat.le_of_ble_eq_true rfl) hlocks (fun H9 hf9 => ?_) (Nat.le_of_ble_eq_true rfl) (Nat.le_of_ble_eq_true rfl)
      exact ⟨rfl, by (unfold zs_pass; rw [if_pos (fun h => by first | exact absurd h.1 (Int32.not_le.mpr (by assumption)) | exact absurd h.2 (by assumption))])⟩

set_option maxHeartbeats 4000000 in
set_option maxRecDepth 100000 in
theorem c_X2_peopleAreSound (l : Launch) {K : zz_G} {A : Nat → Prop} {ad : Nat → Nat → Nat} {E : Nat → Nat → Int32} {cap : Nat → Nat} {N : Nat → Nat → Nat} {G : Nat → Nat → Int32} {L : Nat → Int64} (hzi : zi N) (hI : zq N) (hk : zk K ad cap N)  : zz_C l yX2_peopleAreSound cX2_peopleAreSound 5 (Option.some FieldType.boolean) ({ frames := 3, cells := 0, slots := 0, locals := 64 } : Room) K A [.ref (ad 0 0)] (fun H => zz_W K A ad (zx_c K ad E cap N G L) H) (fun v9 _ _ => v9 = some (.int (zz_bo True))) zz_nx zz_no := by
  refine zz_body (by decide +kernel) (Nat.le_of_ble_eq_true rfl) ?_
  intro p e s m below meth c ls hx hb hr hml hts hown hlocks hmn htab hE hA hP hl
  have hN := hE.N
  have hK := hE.K
  have hown : s.vm.findClass RX2 = some m.cls := hown
  have hl : lv_has ls 5 [(0, .ref (ad 0 0))] := hl
  have hZ : zz_Z K A s ad (zx_c K ad E cap N G L) s.heap := ⟨hE, hA, hP⟩
  have hS : va_S zz_no s.heap s.heap [] := va_S.rf
  obtain ⟨H, hH⟩ : ∃ z, z = s.heap := ⟨_, rfl⟩
  have hS0 : va_S zz_no s.heap H [] := by rw [hH]; exact hS
  rw [← hH] at hZ
  have hE0 := hE
  clear hS
  have hS := hS0
  have hB := hI.B
  have hbk := hI.bk
  have h00 := hI.f
  have h01 := hI.p
  have h02 := hI.b
  have hk0 := hk 0 (by decide)
  have hk1 := hk 1 (by decide)
  have hk2 := hk 2 (by decide)
  have hns := hzi.ns
  have hso := hzi.so
  show W p l e _ s m _ below meth c s.heap [] 0 0 _ (F0 m 0 ls [])
  rw [← hH]
  refine zz_con 0 hx hb dX2_peopleAreSound_0 (by decide) ?_
  refine lv_istore_n (lv' := [(1, .int (nI 0)), (0, .ref (ad 0 0))]) hx hb dX2_peopleAreSound_1 rfl hl (Nat.le_of_ble_eq_true rfl) rfl (fun ls hl => ?_)
  have hL_2 : ∀ (k i : Nat), i ≤ N 0 1 → N 0 1 < i + k → ∀ (H : Heap) (locs : List Loc) (ls : Array Slot), zz_Z K A s ad (zx_c K ad E cap N G L) H → va_S zz_no s.heap H locs → lv_has ls 5 [(1, .int (nI i)), (0, .ref (ad 0 0))] → W p l e ({ frames := 3, cells := 0, slots := 0, locals := 64 } : Room) s m ([.ref (ad 0 0)] : List Value).toArray below meth c H locs 0 0 (vx_MQ below (zz_Qc (fun v9 _ _ => v9 = some (.int (zz_bo True))) zz_no) (zz_XC zz_nx) ([.ref (ad 0 0)] : List Value).toArray s ({ frames := 3, cells := 0, slots := 0, locals := 64 } : Room).cells ({ frames := 3, cells := 0, slots := 0, locals := 64 } : Room).slots zz_no) (F0 m 2 ls []) := by
    intro k
    induction k with
    | zero => intro i hi hik; omega
    | succ k ih_i =>
      intro i hii hiki H locs ls hZ hS hl
      have hnsi := hns i
      have hsoi := hso i
      refine lv_iload_n hx hb dX2_peopleAreSound_2 rfl (lv_at hl 0 rfl) ?_
      refine lv_aload_n hx hb dX2_peopleAreSound_3 rfl (lv_at hl 1 rfl) ?_
      refine zz_get (ci := 5) (C := RX2) (T := TX2) (N := 8) (v := .ref (ad 1 1)) hx hb hts hown hK (zx_ob hZ.W).1 rfl zf_X2 1 (by decide) zw_60 (fun _ h9 => h9) rfl dX2_peopleAreSound_4 ?_
      refine zz_after (pc := 7) rfl (zz_runV (ci := 2) (q0 := (RJx4a65c, TJx4a65c, 3)) (b := ad 1 1) (As := []) (rest := [.int (nI i)]) hx hb hml hown hts (c_Jx4a65c_size_8abf5 l (K := K) (A := A) (ad := ad) (E := E) (cap := cap) (N := N) (G := G) (L := L) hk (by decide)) zw_88 zw_89 zw_90 zw_4 zw_91 zd_Jx4a65c_size_8abf5 ⟨Nat.le_of_ble_eq_true rfl, Nat.le_of_ble_eq_true rfl⟩ hZ.E hZ.A (zx_li hZ.W (t := 1) (by decide)).1 rfl rfl hZ.W hl.1 (Nat.le_of_ble_eq_true rfl) dX2_peopleAreSound_7 ⟨Nat.le_of_ble_eq_true rfl, Nat.le_of_ble_eq_true rfl⟩) hS (fun _ h => h.elim) (fun v_5 H locs hq_3 hF_4 hS => ?_)
      refine W.widen (k := 0) (n := 0) (Nat.le_of_ble_eq_true rfl) (Nat.le_of_ble_eq_true rfl) ?_
      obtain rfl := hq_3
      have hZ := hZ.ro hF_4
      refine W.eq (g2 := F0 m 10 ls [.int (nI (N 0 1)), .int (nI i)]) rfl ?_
      refine zz_ic_ge (tgt := 68) (by first | exact hB _ _ | exact hUa _ | exact hUb _ | exact hUc _ | exact hUd _ | omega) (by first | exact hB _ _ | exact hUa _ | exact hUb _ | exact hUc _ | exact hUd _ | omega) hx hb dX2_peopleAreSound_10 (by decide) (fun c_6 => ?_) (fun c_6 => ?_)
      · skip
        obtain rfl : i = N 0 1 := by omega
        refine zz_con 1 hx hb dX2_peopleAreSound_68 (by decide) ?_
        refine zz_zret hx hb hr hlocks hS (Nat.le_of_ble_eq_true rfl) (Nat.le_of_ble_eq_true rfl) dX2_peopleAreSound_69 (show nI 1 = 0 ∨ nI 1 = 1 by decide) ?_
        refine congrArg (fun z => some (Value.int z)) (zz_bo_t ?_).symm
        first | assumption | omega | (simp [c_6]; done) | (simp_all; done) | (split <;> first | rfl | omega | (simp_all; done); done)
      · skip
        refine lv_aload_n hx hb dX2_peopleAreSound_13 rfl (lv_at hl 1 rfl) ?_
        refine zz_get (ci := 5) (C := RX2) (T := TX2) (N := 8) (v := .ref (ad 1 1)) hx hb hts hown hK (zx_ob hZ.W).1 rfl zf_X2 1 (by decide) zw_60 (fun _ h9 => h9) rfl dX2_peopleAreSound_14 ?_
        refine lv_iload_n hx hb dX2_peopleAreSound_17 rfl (lv_at hl 0 rfl) ?_
        have hj_7 : i < N 0 1 := by omega
        refine zz_after (pc := 18) rfl (zz_runV (ci := 2) (q0 := (RJx4a65c, TJx4a65c, 3)) (b := ad 1 1) (As := [.int (nI i)]) (rest := []) hx hb hml hown hts (c_Jx4a65c_get_915e3 l (K := K) (A := A) (ad := ad) (E := E) (cap := cap) (N := N) (G := G) (L := L) hk (by decide) (j := i) (r := (ad 5 i)) hj_7 (zx_g1 hj_7)) zw_101 zw_102 zw_103 zw_4 zw_104 zd_Jx4a65c_get_915e3 ⟨Nat.le_of_ble_eq_true rfl, Nat.le_of_ble_eq_true rfl⟩ hZ.E hZ.A (zx_li hZ.W (t := 1) (by decide)).1 rfl rfl hZ.W hl.1 (Nat.le_of_ble_eq_true rfl) dX2_peopleAreSound_18 ⟨Nat.le_of_ble_eq_true rfl, Nat.le_of_ble_eq_true rfl⟩) hS (fun _ h => h.elim) (fun v_10 H locs hq_8 hF_9 hS => ?_)
        refine W.widen (k := 0) (n := 0) (Nat.le_of_ble_eq_true rfl) (Nat.le_of_ble_eq_true rfl) ?_
        obtain rfl := hq_8
        have hZ := hZ.ro hF_9
        refine W.eq (g2 := F0 m 21 ls [.ref (ad 5 i)]) rfl ?_
        refine va_castS hx hb hown (hts _ zw_129) (hK.1 4 _ rfl).2 (zz_rc hK (zx_pe hZ.W (q := i) hj_7).1 rfl) dX2_peopleAreSound_21 ?_
        refine lv_astore_n (lv' := [(2, .ref (ad 5 i)), (1, .int (nI i)), (0, .ref (ad 0 0))]) hx hb dX2_peopleAreSound_24 rfl hl (Nat.le_of_ble_eq_true rfl) rfl (fun ls hl => ?_)
        refine lv_aload_n hx hb dX2_peopleAreSound_25 rfl (lv_at hl 0 rfl) ?_
        rcases (show N 6 i = 0 ∨ ∃ z, N 6 i = z + 1 by cases (N 6 i) with | zero => exact Or.inl rfl | succ z => exact Or.inr ⟨z, rfl⟩) with h_11 | ⟨j_12, h_11⟩
        · skip
          refine zz_getN (ci := 4) (C := RX1) (T := TX1) (N := 7) (v := .null) hx hb hts hN hown hK (zx_pe hZ.W (q := i) hj_7).1 rfl zf_X1 4 (by decide) zn_493 (fun _ h9 => h9) (congrArg (fun x => some (zz_rf (ad 3) x)) h_11) dX2_peopleAreSound_26 ?_
          refine lv_astore_nN (lv' := [(3, .null), (2, .ref (ad 5 i)), (1, .int (nI i)), (0, .ref (ad 0 0))]) hx hb dX2_peopleAreSound_29 rfl hl (Nat.le_of_ble_eq_true rfl) rfl (fun ls hl => ?_)
          refine lv_aload_nN hx hb dX2_peopleAreSound_30 rfl (lv_at hl 0 rfl) ?_
          refine lv_ifnonnullN hx hb dX2_peopleAreSound_31 ?_
          refine lv_aload_n hx hb dX2_peopleAreSound_34 rfl (lv_at hl 1 rfl) ?_
          refine zz_getN (ci := 4) (C := RX1) (T := TX1) (N := 7) (v := .int (nI (N 7 i))) hx hb hts hN hown hK (zx_pe hZ.W (q := i) hj_7).1 rfl zf_X1 5 (by decide) zn_495 (fun _ h9 => h9) rfl dX2_peopleAreSound_35 ?_
          refine zz_if_ne (tgt := 45) (by first | exact hB _ _ | exact hUa _ | exact hUb _ | exact hUc _ | exact hUd _ | omega) hx hb dX2_peopleAreSound_38 (by decide) (fun c_13 => ?_) (fun c_13 => ?_)
          · skip
            exact absurd (hnsi (by omega) (by assumption)) (by assumption)
          · skip
            refine zz_con 1 hx hb dX2_peopleAreSound_41 (by decide) ?_
            refine lv_goto (tgt := 53) hx hb dX2_peopleAreSound_42 (by decide) ?_
            refine lv_istore (lv' := [(4, .int (nI 1)), (3, .null), (2, .ref (ad 5 i)), (1, .int (nI i)), (0, .ref (ad 0 0))]) hx hb dX2_peopleAreSound_53 hl (Nat.le_of_ble_eq_true rfl) rfl (fun ls hl => ?_)
            refine lv_iload hx hb dX2_peopleAreSound_55 (lv_at hl 0 rfl) ?_
            refine zz_if_ne (tgt := 62) (by decide) hx hb dX2_peopleAreSound_57 (by decide) (fun c_14 => ?_) (fun c_14 => ?_)
            · skip
              refine zz_inc (k := 3) (lv' := [(1, .int (nI (i + 1))), (4, .int (nI 1)), (3, .null), (2, .ref (ad 5 i)), (0, .ref (ad 0 0))]) hx hb dX2_peopleAreSound_62 hl rfl (Nat.le_of_ble_eq_true rfl) rfl (fun ls hl => ?_)
              refine lv_goto (tgt := 2) hx hb dX2_peopleAreSound_65 (by decide) ?_
              refine ih_i (i + 1) (by omega) (by omega) _ _ _ ?_ hS ?_
              · exact hZ
              · skip
                exact lv_sub hl [0, 4] rfl
            · skip
              first | omega | exact absurd (hsoi _ (by omega) (by assumption)) (by omega)
        · skip
          have hj_15 : j_12 < N 0 0 := by have := hI.st i hj_7; omega
          refine zz_getN (ci := 4) (C := RX1) (T := TX1) (N := 7) (v := .ref (ad 3 j_12)) hx hb hts hN hown hK (zx_pe hZ.W (q := i) hj_7).1 rfl zf_X1 4 (by decide) zn_493 (fun _ h9 => h9) (congrArg (fun x => some (zz_rf (ad 3) x)) h_11) dX2_peopleAreSound_26 ?_
          refine lv_astore_n (lv' := [(3, .ref (ad 3 j_12)), (2, .ref (ad 5 i)), (1, .int (nI i)), (0, .ref (ad 0 0))]) hx hb dX2_peopleAreSound_29 rfl hl (Nat.le_of_ble_eq_true rfl) rfl (fun ls hl => ?_)
          refine lv_aload_n hx hb dX2_peopleAreSound_30 rfl (lv_at hl 0 rfl) ?_
          refine lv_ifnonnull (tgt := 49) hx hb dX2_peopleAreSound_31 (by decide) ?_
          refine lv_aload_n hx hb dX2_peopleAreSound_49 rfl (lv_at hl 0 rfl) ?_
          refine zz_getN (ci := 3) (C := RX0) (T := TX0) (N := 7) (v := .int (nI (N 3 j_12))) hx hb hts hN hown hK (zx_fl hZ.W (f := j_12) hj_15).1 rfl zf_X0 3 (by decide) zn_340 (fun _ h9 => h9) rfl dX2_peopleAreSound_50 ?_
          refine lv_istore (lv' := [(4, .int (nI (N 3 j_12))), (3, .ref (ad 3 j_12)), (2, .ref (ad 5 i)), (1, .int (nI i)), (0, .ref (ad 0 0))]) hx hb dX2_peopleAreSound_53 hl (Nat.le_of_ble_eq_true rfl) rfl (fun ls hl => ?_)
          refine lv_iload hx hb dX2_peopleAreSound_55 (lv_at hl 0 rfl) ?_
          refine zz_if_ne (tgt := 62) (by first | exact hB _ _ | exact hUa _ | exact hUb _ | exact hUc _ | exact hUd _ | omega) hx hb dX2_peopleAreSound_57 (by decide) (fun c_16 => ?_) (fun c_16 => ?_)
          · skip
            refine zz_inc (k := 3) (lv' := [(1, .int (nI (i + 1))), (4, .int (nI (N 3 j_12))), (3, .ref (ad 3 j_12)), (2, .ref (ad 5 i)), (0, .ref (ad 0 0))]) hx hb dX2_peopleAreSound_62 hl rfl (Nat.le_of_ble_eq_true rfl) rfl (fun ls hl => ?_)
            refine lv_goto (tgt := 2) hx hb dX2_peopleAreSound_65 (by decide) ?_
            refine ih_i (i + 1) (by omega) (by omega) _ _ _ ?_ hS ?_
            · exact hZ
            · skip
              exact lv_sub hl [0, 4] rfl
          · skip
            first | omega | exact absurd (hsoi _ (by omega) (by assumption)) (by omega)
  refine hL_2 (N 0 1 + 1) 0 (by first | omega | exact Nat.zero_le _) (by first | omega | (rw [Nat.zero_add]; exact Nat.lt_succ_self _)) _ _ _ hZ hS ?_
  exact lv_sub hl [0, 1] rfl

set_option maxHeartbeats 4000000 in
set_option maxRecDepth 100000 in
theorem c_X2_floorsAreSound (l : Launch) {K : zz_G} {A : Nat → Prop} {ad : Nat → Nat → Nat} {E : Nat → Nat → Int32} {cap : Nat → Nat} {N : Nat → Nat → Nat} {G : Nat → Nat → Int32} {L : Nat → Int64} (hzi : zi N) (hI : zq N) (hk : zk K ad cap N)  : zz_C l yX2_floorsAreSound cX2_floorsAreSound 3 (Option.some FieldType.boolean) ({ frames := 4, cells := 0, slots := 0, locals := 87 } : Room) K A [.ref (ad 0 0)] (fun H => zz_W K A ad (zx_c K ad E cap N G L) H) (fun v9 _ _ => v9 = some (.int (zz_bo True))) zz_nx zz_no := by
  refine zz_body (by decide +kernel) (Nat.le_of_ble_eq_true rfl) ?_
  intro p e s m below meth c ls hx hb hr hml hts hown hlocks hmn htab hE hA hP hl
  have hN := hE.N
  have hK := hE.K
  have hown : s.vm.findClass RX2 = some m.cls := hown
  have hl : lv_has ls 3 [(0, .ref (ad 0 0))] := hl
  have hZ : zz_Z K A s ad (zx_c K ad E cap N G L) s.heap := ⟨hE, hA, hP⟩
  have hS : va_S zz_no s.heap s.heap [] := va_S.rf
  obtain ⟨H, hH⟩ : ∃ z, z = s.heap := ⟨_, rfl⟩
  have hS0 : va_S zz_no s.heap H [] := by rw [hH]; exact hS
  rw [← hH] at hZ
  have hE0 := hE
  clear hS
  have hS := hS0
  have hB := hI.B
  have hbk := hI.bk
  have h00 := hI.f
  have h01 := hI.p
  have h02 := hI.b
  have hk0 := hk 0 (by decide)
  have hk1 := hk 1 (by decide)
  have hk2 := hk 2 (by decide)
  have hsc := hzi.sc
  have hs0 : ∀ z, zsit N z 0 ≤ 12 := fun z => zsit_b hI z 0
  show W p l e _ s m _ below meth c s.heap [] 0 0 _ (F0 m 0 ls [])
  rw [← hH]
  refine zz_con 0 hx hb dX2_floorsAreSound_0 (by decide) ?_
  refine lv_istore_n (lv' := [(1, .int (nI 0)), (0, .ref (ad 0 0))]) hx hb dX2_floorsAreSound_1 rfl hl (Nat.le_of_ble_eq_true rfl) rfl (fun ls hl => ?_)
  have hL_2 : ∀ (k i : Nat), i ≤ N 0 0 → N 0 0 < i + k → ∀ (H : Heap) (locs : List Loc) (ls : Array Slot), zz_Z K A s ad (zx_c K ad E cap N G L) H → va_S zz_no s.heap H locs → lv_has ls 3 [(1, .int (nI i)), (0, .ref (ad 0 0))] → W p l e ({ frames := 4, cells := 0, slots := 0, locals := 87 } : Room) s m ([.ref (ad 0 0)] : List Value).toArray below meth c H locs 0 0 (vx_MQ below (zz_Qc (fun v9 _ _ => v9 = some (.int (zz_bo True))) zz_no) (zz_XC zz_nx) ([.ref (ad 0 0)] : List Value).toArray s ({ frames := 4, cells := 0, slots := 0, locals := 87 } : Room).cells ({ frames := 4, cells := 0, slots := 0, locals := 87 } : Room).slots zz_no) (F0 m 2 ls []) := by
    intro k
    induction k with
    | zero => intro i hi hik; omega
    | succ k ih_i =>
      intro i hii hiki H locs ls hZ hS hl
      have hsi := hs0 i
      have hsci := hsc i
      refine lv_iload_n hx hb dX2_floorsAreSound_2 rfl (lv_at hl 0 rfl) ?_
      refine lv_aload_n hx hb dX2_floorsAreSound_3 rfl (lv_at hl 1 rfl) ?_
      refine zz_get (ci := 5) (C := RX2) (T := TX2) (N := 8) (v := .ref (ad 1 0)) hx hb hts hown hK (zx_ob hZ.W).1 rfl zf_X2 0 (by decide) zw_59 (fun _ h9 => h9) rfl dX2_floorsAreSound_4 ?_
      refine zz_after (pc := 7) rfl (zz_runV (ci := 2) (q0 := (RJx4a65c, TJx4a65c, 3)) (b := ad 1 0) (As := []) (rest := [.int (nI i)]) hx hb hml hown hts (c_Jx4a65c_size_8abf5 l (K := K) (A := A) (ad := ad) (E := E) (cap := cap) (N := N) (G := G) (L := L) hk (by decide)) zw_88 zw_89 zw_90 zw_4 zw_91 zd_Jx4a65c_size_8abf5 ⟨Nat.le_of_ble_eq_true rfl, Nat.le_of_ble_eq_true rfl⟩ hZ.E hZ.A (zx_li hZ.W (t := 0) (by decide)).1 rfl rfl hZ.W hl.1 (Nat.le_of_ble_eq_true rfl) dX2_floorsAreSound_7 ⟨Nat.le_of_ble_eq_true rfl, Nat.le_of_ble_eq_true rfl⟩) hS (fun _ h => h.elim) (fun v_5 H locs hq_3 hF_4 hS => ?_)
      refine W.widen (k := 0) (n := 0) (Nat.le_of_ble_eq_true rfl) (Nat.le_of_ble_eq_true rfl) ?_
      obtain rfl := hq_3
      have hZ := hZ.ro hF_4
      refine W.eq (g2 := F0 m 10 ls [.int (nI (N 0 0)), .int (nI i)]) rfl ?_
      refine zz_ic_ge (tgt := 45) (by first | exact hB _ _ | exact hUa _ | exact hUb _ | exact hUc _ | exact hUd _ | omega) (by first | exact hB _ _ | exact hUa _ | exact hUb _ | exact hUc _ | exact hUd _ | omega) hx hb dX2_floorsAreSound_10 (by decide) (fun c_6 => ?_) (fun c_6 => ?_)
      · skip
        obtain rfl : i = N 0 0 := by omega
        refine zz_con 1 hx hb dX2_floorsAreSound_45 (by decide) ?_
        refine zz_zret hx hb hr hlocks hS (Nat.le_of_ble_eq_true rfl) (Nat.le_of_ble_eq_true rfl) dX2_floorsAreSound_46 (show nI 1 = 0 ∨ nI 1 = 1 by decide) ?_
        refine congrArg (fun z => some (Value.int z)) (zz_bo_t ?_).symm
        first | assumption | omega | (simp [c_6]; done) | (simp_all; done) | (split <;> first | rfl | omega | (simp_all; done); done)
      · skip
        refine lv_aload_n hx hb dX2_floorsAreSound_13 rfl (lv_at hl 1 rfl) ?_
        refine zz_get (ci := 5) (C := RX2) (T := TX2) (N := 8) (v := .ref (ad 1 0)) hx hb hts hown hK (zx_ob hZ.W).1 rfl zf_X2 0 (by decide) zw_59 (fun _ h9 => h9) rfl dX2_floorsAreSound_14 ?_
        refine lv_iload_n hx hb dX2_floorsAreSound_17 rfl (lv_at hl 0 rfl) ?_
        have hj_7 : i < N 0 0 := by omega
        refine zz_after (pc := 18) rfl (zz_runV (ci := 2) (q0 := (RJx4a65c, TJx4a65c, 3)) (b := ad 1 0) (As := [.int (nI i)]) (rest := []) hx hb hml hown hts (c_Jx4a65c_get_915e3 l (K := K) (A := A) (ad := ad) (E := E) (cap := cap) (N := N) (G := G) (L := L) hk (by decide) (j := i) (r := (ad 3 i)) hj_7 (zx_g0 hj_7)) zw_101 zw_102 zw_103 zw_4 zw_104 zd_Jx4a65c_get_915e3 ⟨Nat.le_of_ble_eq_true rfl, Nat.le_of_ble_eq_true rfl⟩ hZ.E hZ.A (zx_li hZ.W (t := 0) (by decide)).1 rfl rfl hZ.W hl.1 (Nat.le_of_ble_eq_true rfl) dX2_floorsAreSound_18 ⟨Nat.le_of_ble_eq_true rfl, Nat.le_of_ble_eq_true rfl⟩) hS (fun _ h => h.elim) (fun v_10 H locs hq_8 hF_9 hS => ?_)
        refine W.widen (k := 0) (n := 0) (Nat.le_of_ble_eq_true rfl) (Nat.le_of_ble_eq_true rfl) ?_
        obtain rfl := hq_8
        have hZ := hZ.ro hF_9
        refine W.eq (g2 := F0 m 21 ls [.ref (ad 3 i)]) rfl ?_
        refine va_castS hx hb hown (hts _ zw_115) (hK.1 3 _ rfl).2 (zz_rc hK (zx_fl hZ.W (f := i) hj_7).1 rfl) dX2_floorsAreSound_21 ?_
        refine lv_astore_n (lv' := [(2, .ref (ad 3 i)), (1, .int (nI i)), (0, .ref (ad 0 0))]) hx hb dX2_floorsAreSound_24 rfl hl (Nat.le_of_ble_eq_true rfl) rfl (fun ls hl => ?_)
        refine lv_aload_n hx hb dX2_floorsAreSound_25 rfl (lv_at hl 2 rfl) ?_
        refine lv_aload_n hx hb dX2_floorsAreSound_26 rfl (lv_at hl 0 rfl) ?_
        refine zz_after (pc := 27) rfl (zz_runV (ci := 5) (q0 := (RX2, TX2, 8)) (b := ad 0 0) (As := [.ref (ad 3 i)]) (rest := []) hx hb hml hown hts (c_X2_countSeatsGivenOn l (K := K) (A := A) (ad := ad) (E := E) (cap := cap) (N := N) (G := G) (L := L) hI hk hj_7) zw_223 zw_225 zs_11 zw_1 zw_226 zd_X2_countSeatsGivenOn ⟨Nat.le_of_ble_eq_true rfl, Nat.le_of_ble_eq_true rfl⟩ hZ.E hZ.A (zx_ob hZ.W).1 rfl rfl hZ.W hl.1 (Nat.le_of_ble_eq_true rfl) dX2_floorsAreSound_27 ⟨Nat.le_of_ble_eq_true rfl, Nat.le_of_ble_eq_true rfl⟩) hS (fun _ h => h.elim) (fun v_13 H locs hq_11 hF_12 hS => ?_)
        refine W.widen (k := 0) (n := 0) (Nat.le_of_ble_eq_true rfl) (Nat.le_of_ble_eq_true rfl) ?_
        obtain rfl := hq_11
        have hZ := hZ.ro hF_12
        refine W.eq (g2 := F0 m 30 ls [.int (nI (zsit N i 0))]) rfl ?_
        refine lv_aload_n hx hb dX2_floorsAreSound_30 rfl (lv_at hl 0 rfl) ?_
        refine zz_getN (ci := 3) (C := RX0) (T := TX0) (N := 7) (v := .int (nI (N 1 i))) hx hb hts hN hown hK (zx_fl hZ.W (f := i) hj_7).1 rfl zf_X0 1 (by decide) zn_336 (fun _ h9 => h9) rfl dX2_floorsAreSound_31 ?_
        refine zz_ic_le (tgt := 39) (by first | exact hB _ _ | exact hUa _ | exact hUb _ | exact hUc _ | exact hUd _ | omega) (by first | exact hB _ _ | exact hUa _ | exact hUb _ | exact hUc _ | exact hUd _ | omega) hx hb dX2_floorsAreSound_34 (by decide) (fun c_14 => ?_) (fun c_14 => ?_)
        · skip
          refine zz_inc (k := 1) (lv' := [(1, .int (nI (i + 1))), (2, .ref (ad 3 i)), (0, .ref (ad 0 0))]) hx hb dX2_floorsAreSound_39 hl rfl (Nat.le_of_ble_eq_true rfl) rfl (fun ls hl => ?_)
          refine lv_goto (tgt := 2) hx hb dX2_floorsAreSound_42 (by decide) ?_
          refine ih_i (i + 1) (by omega) (by omega) _ _ _ ?_ hS ?_
          · exact hZ
          · skip
            exact lv_sub hl [0, 2] rfl
        · skip
          have h9 := hsci (by omega)
          rw [← zsit_0] at h9
          omega
  refine hL_2 (N 0 0 + 1) 0 (by first | omega | exact Nat.zero_le _) (by first | omega | (rw [Nat.zero_add]; exact Nat.lt_succ_self _)) _ _ _ hZ hS ?_
  exact lv_sub hl [0, 1] rfl

set_option maxHeartbeats 4000000 in
set_option maxRecDepth 100000 in
theorem c_X2_isSound (l : Launch) {K : zz_G} {A : Nat → Prop} {ad : Nat → Nat → Nat} {E : Nat → Nat → Int32} {cap : Nat → Nat} {N : Nat → Nat → Nat} {G : Nat → Nat → Int32} {L : Nat → Int64} (hzi : zi N) (hI : zq N) (hk : zk K ad cap N)  : zz_C l yX2_isSound cX2_isSound 1 (Option.some FieldType.boolean) ({ frames := 8, cells := 0, slots := 0, locals := 185 } : Room) K A [.ref (ad 0 0)] (fun H => zz_W K A ad (zx_c K ad E cap N G L) H) (fun v9 _ H9 => v9 = some (.int (zz_bo True)) ∧ zz_W K A ad (zx_c K ad (zfE N E) cap N G L) H9) zz_nx A := by
  refine zz_body (by decide +kernel) (Nat.le_of_ble_eq_true rfl) ?_
  intro p e s m below meth c ls hx hb hr hml hts hown hlocks hmn htab hE hA hP hl
  have hN := hE.N
  have hK := hE.K
  have hown : s.vm.findClass RX2 = some m.cls := hown
  have hl : lv_has ls 1 [(0, .ref (ad 0 0))] := hl
  have hZ : zz_Z K A s ad (zx_c K ad E cap N G L) s.heap := ⟨hE, hA, hP⟩
  have hS : va_S zz_no s.heap s.heap [] := va_S.rf
  obtain ⟨H, hH⟩ : ∃ z, z = s.heap := ⟨_, rfl⟩
  have hS0 : va_S zz_no s.heap H [] := by rw [hH]; exact hS
  rw [← hH] at hZ
  have hE0 := hE
  clear hS
  have hS := hS0
  have hB := hI.B
  have hbk := hI.bk
  have h00 := hI.f
  have h01 := hI.p
  have h02 := hI.b
  have hk0 := hk 0 (by decide)
  have hk1 := hk 1 (by decide)
  have hk2 := hk 2 (by decide)
  have h64 := zplan_b64 hI
  show W p l e _ s m _ below meth c s.heap [] 0 0 _ (F0 m 0 ls [])
  rw [← hH]
  refine lv_aload_n hx hb dX2_isSound_0 rfl (lv_at hl 0 rfl) ?_
  have hS : va_S A s.heap H _ := zz_Smono hS (fun _ h => h.elim)
  refine zz_after (pc := 1) rfl (zz_runV (ci := 5) (q0 := (RX2, TX2, 8)) (b := ad 0 0) (As := []) (rest := []) hx hb hml hown hts (c_X2_plan l (K := K) (A := A) (ad := ad) (E := E) (cap := cap) (N := N) (G := G) (L := L) hI hk ) zw_213 zw_93 zw_94 zw_1 zw_95 zd_X2_plan ⟨Nat.le_of_ble_eq_true rfl, Nat.le_of_ble_eq_true rfl⟩ hZ.E hZ.A (zx_ob hZ.W).1 rfl rfl hZ.W hl.1 (Nat.le_of_ble_eq_true rfl) dX2_isSound_1 ⟨Nat.le_of_ble_eq_true rfl, Nat.le_of_ble_eq_true rfl⟩) hS (fun _ h => h) (fun v_3 H locs hq_1 hF_2 hS => ?_)
  refine W.widen (k := 0) (n := 0) (Nat.le_of_ble_eq_true rfl) (Nat.le_of_ble_eq_true rfl) ?_
  obtain ⟨rfl, hW9⟩ := hq_1
  have hZ : zz_Z K A s ad (zx_c K ad (zfE N E) cap N G L) H := hZ.mut hF_2 hW9
  refine W.eq (g2 := F0 m 4 ls [.int (nI (zplan N))]) rfl ?_
  refine lv_aload_n hx hb dX2_isSound_4 rfl (lv_at hl 0 rfl) ?_
  refine zz_after (pc := 5) rfl (zz_runV (ci := 5) (q0 := (RX2, TX2, 8)) (b := ad 0 0) (As := []) (rest := [.int (nI (zplan N))]) hx hb hml hown hts (c_X2_planByTrying l (K := K) (A := A) (ad := ad) (E := (zfE N E)) (cap := cap) (N := N) (G := G) (L := L) hI hk ) zw_214 zw_150 zw_151 zw_1 zw_152 zd_X2_planByTrying ⟨Nat.le_of_ble_eq_true rfl, Nat.le_of_ble_eq_true rfl⟩ hZ.E hZ.A (zx_ob hZ.W).1 rfl rfl hZ.W hl.1 (Nat.le_of_ble_eq_true rfl) dX2_isSound_5 ⟨Nat.le_of_ble_eq_true rfl, Nat.le_of_ble_eq_true rfl⟩) hS (fun _ h => h.elim) (fun v_6 H locs hq_4 hF_5 hS => ?_)
  refine W.widen (k := 0) (n := 0) (Nat.le_of_ble_eq_true rfl) (Nat.le_of_ble_eq_true rfl) ?_
  obtain rfl := hq_4
  have hZ := hZ.ro hF_5
  refine W.eq (g2 := F0 m 8 ls [.int (nI (zplan N)), .int (nI (zplan N))]) rfl ?_
  refine zz_ic_ne (tgt := 29) (by first | exact hB _ _ | exact hUa _ | exact hUb _ | exact hUc _ | exact hUd _ | omega) (by first | exact hB _ _ | exact hUa _ | exact hUb _ | exact hUc _ | exact hUd _ | omega) hx hb dX2_isSound_8 (by decide) (fun c_7 => ?_) (fun c_7 => ?_)
  · skip
    exact absurd rfl c_7
  · skip
    refine lv_aload_n hx hb dX2_isSound_11 rfl (lv_at hl 0 rfl) ?_
    refine zz_after (pc := 12) rfl (zz_runV (ci := 5) (q0 := (RX2, TX2, 8)) (b := ad 0 0) (As := []) (rest := []) hx hb hml hown hts (c_X2_peopleAreSound l (K := K) (A := A) (ad := ad) (E := (zfE N E)) (cap := cap) (N := N) (G := G) (L := L) hzi hI hk ) zw_215 zw_217 zs_9 zw_1 zw_218 zd_X2_peopleAreSound ⟨Nat.le_of_ble_eq_true rfl, Nat.le_of_ble_eq_true rfl⟩ hZ.E hZ.A (zx_ob hZ.W).1 rfl rfl hZ.W hl.1 (Nat.le_of_ble_eq_true rfl) dX2_isSound_12 ⟨Nat.le_of_ble_eq_true rfl, Nat.le_of_ble_eq_true rfl⟩) hS (fun _ h => h.elim) (fun v_10 H locs hq_8 hF_9 hS => ?_)
    refine W.widen (k := 0) (n := 0) (Nat.le_of_ble_eq_true rfl) (Nat.le_of_ble_eq_true rfl) ?_
    obtain rfl := hq_8
    have hZ := hZ.ro hF_9
    refine W.eq (g2 := F0 m 15 ls [.int (zz_bo True)]) rfl ?_
    refine zz_bi_eq (tgt := 29) hx hb dX2_isSound_15 (by decide) (fun c_11 => ?_) (fun c_11 => ?_)
    · skip
      exact absurd trivial c_11
    · skip
      refine lv_aload_n hx hb dX2_isSound_18 rfl (lv_at hl 0 rfl) ?_
      refine zz_after (pc := 19) rfl (zz_runV (ci := 5) (q0 := (RX2, TX2, 8)) (b := ad 0 0) (As := []) (rest := []) hx hb hml hown hts (c_X2_floorsAreSound l (K := K) (A := A) (ad := ad) (E := (zfE N E)) (cap := cap) (N := N) (G := G) (L := L) hzi hI hk ) zw_219 zw_221 zs_10 zw_1 zw_222 zd_X2_floorsAreSound ⟨Nat.le_of_ble_eq_true rfl, Nat.le_of_ble_eq_true rfl⟩ hZ.E hZ.A (zx_ob hZ.W).1 rfl rfl hZ.W hl.1 (Nat.le_of_ble_eq_true rfl) dX2_isSound_19 ⟨Nat.le_of_ble_eq_true rfl, Nat.le_of_ble_eq_true rfl⟩) hS (fun _ h => h.elim) (fun v_14 H locs hq_12 hF_13 hS => ?_)
      refine W.widen (k := 0) (n := 0) (Nat.le_of_ble_eq_true rfl) (Nat.le_of_ble_eq_true rfl) ?_
      obtain rfl := hq_12
      have hZ := hZ.ro hF_13
      refine W.eq (g2 := F0 m 22 ls [.int (zz_bo True)]) rfl ?_
      refine zz_bi_eq (tgt := 29) hx hb dX2_isSound_22 (by decide) (fun c_15 => ?_) (fun c_15 => ?_)
      · skip
        exact absurd c_11 c_15
      · skip
        refine zz_con 1 hx hb dX2_isSound_25 (by decide) ?_
        refine lv_goto (tgt := 30) hx hb dX2_isSound_26 (by decide) ?_
        refine zz_zret hx hb hr hlocks hS (Nat.le_of_ble_eq_true rfl) (Nat.le_of_ble_eq_true rfl) dX2_isSound_30 (show nI 1 = 0 ∨ nI 1 = 1 by decide) ?_
        refine ⟨?_, ?_⟩
        · skip
          refine congrArg (fun z => some (Value.int z)) (zz_bo_t ?_).symm
          first | assumption | omega | (simp [c_7, c_11, c_15]; done) | (simp_all; done) | (split <;> first | rfl | omega | (simp_all; done); done)
        · first | exact hZ.W | (refine zx_co ?_ ?_ ?_ ?_ hZ.W <;> first | rfl | (simp [c_7, c_11, c_15]; done) | (simp_all; done) | (split <;> first | rfl | omega | (simp_all; done); done))
