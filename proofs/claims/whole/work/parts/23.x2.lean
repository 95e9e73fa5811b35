/-! by program (gen.py): contracts of methods -/
theorem zq_u1 {N : zN} (h : zq N) {k i v : Nat} (hk : k = 3 ∨ k = 7 ∨ k = 8) (hv : v ≤ 1) : zq (zu N k i v) := by
  have hz : ∀ a b, a = 3 ∨ a = 7 ∨ a = 8 → N a b ≤ 1 → zu N k i v a b ≤ 1 := fun a b _ hb => by
    by_cases q : a = k ∧ b = i
    · obtain ⟨rfl, rfl⟩ := q; rw [zu_s]; exact hv
    · rw [zu_n q]; exact hb
  have n0 : ∀ a b, a ≠ 3 → a ≠ 7 → a ≠ 8 → zu N k i v a b = N a b := fun a b h3 h7 h8 => zu_k (by omega)
  refine zq_up h (fun a b h3 _ _ h7 h8 _ => n0 a b h3 h7 h8) ?_ ?_ (fun b => ?_) (fun q hq => ?_) (fun q => ?_) (fun b => ?_)
  · rw [n0 _ _ (by decide) (by decide) (by decide)]; exact h.d
  · rw [n0 _ _ (by decide) (by decide) (by decide), n0 _ _ (by decide) (by decide) (by decide)]; exact h.n
  · rw [n0 _ _ (by decide) (by decide) (by decide)]; exact h.B _ _
  · rw [n0 _ _ (by decide) (by decide) (by decide)]; exact h.st q hq
  · rw [n0 _ _ (by decide) (by decide) (by decide)]; exact h.B _ _
  · rw [n0 5 b (by decide) (by decide) (by decide)]
    have := h.sm b
    exact ⟨hz 3 b (by decide) this.1, hz 7 b (by decide) this.2.1, hz 8 b (by decide) this.2.2.1, this.2.2.2.1⟩
theorem zz_bo_n {n : Nat} {P : Prop} [Decidable P] (h : n ≤ 1) (hp : P ↔ n ≠ 0) : nI n = zz_bo P := by
  by_cases q : n = 0
  · subst q; exact (zz_bo_f (fun z => (hp.mp z) rfl)).symm
  · obtain rfl : n = 1 := by omega
    exact (zz_bo_t (hp.mpr (by decide))).symm
theorem zd_Jx4a65c_isEmpty_aae02 : yJx4a65c_isEmpty_aae02.cls ≠ "java/lang/invoke/MethodHandle" ∧ yJx4a65c_isEmpty_aae02.cls ≠ "java/lang/invoke/VarHandle" ∧ (parseMethodDescriptor yJx4a65c_isEmpty_aae02.desc).map (fun d => d.parameters.length) = some 0 := by decide +kernel
theorem zd_X2_checkCost : yX2_checkCost.cls ≠ "java/lang/invoke/MethodHandle" ∧ yX2_checkCost.cls ≠ "java/lang/invoke/VarHandle" ∧ (parseMethodDescriptor yX2_checkCost.desc).map (fun d => d.parameters.length) = some 1 := by decide +kernel
theorem zd_X2_checkTeam : yX2_checkTeam.cls ≠ "java/lang/invoke/MethodHandle" ∧ yX2_checkTeam.cls ≠ "java/lang/invoke/VarHandle" ∧ (parseMethodDescriptor yX2_checkTeam.desc).map (fun d => d.parameters.length) = some 1 := by decide +kernel
theorem zd_X2_countPeopleIn : yX2_countPeopleIn.cls ≠ "java/lang/invoke/MethodHandle" ∧ yX2_countPeopleIn.cls ≠ "java/lang/invoke/VarHandle" ∧ (parseMethodDescriptor yX2_countPeopleIn.desc).map (fun d => d.parameters.length) = some 0 := by decide +kernel
theorem zd_X2_countSeatsGivenOn : yX2_countSeatsGivenOn.cls ≠ "java/lang/invoke/MethodHandle" ∧ yX2_countSeatsGivenOn.cls ≠ "java/lang/invoke/VarHandle" ∧ (parseMethodDescriptor yX2_countSeatsGivenOn.desc).map (fun d => d.parameters.length) = some 1 := by decide +kernel
theorem zd_X2_countTeamOn : yX2_countTeamOn.cls ≠ "java/lang/invoke/MethodHandle" ∧ yX2_countTeamOn.cls ≠ "java/lang/invoke/VarHandle" ∧ (parseMethodDescriptor yX2_countTeamOn.desc).map (fun d => d.parameters.length) = some 2 := by decide +kernel
theorem zd_X2_existingFloor : yX2_existingFloor.cls ≠ "java/lang/invoke/MethodHandle" ∧ yX2_existingFloor.cls ≠ "java/lang/invoke/VarHandle" ∧ (parseMethodDescriptor yX2_existingFloor.desc).map (fun d => d.parameters.length) = some 1 := by decide +kernel
theorem zd_X2_existingPerson : yX2_existingPerson.cls ≠ "java/lang/invoke/MethodHandle" ∧ yX2_existingPerson.cls ≠ "java/lang/invoke/VarHandle" ∧ (parseMethodDescriptor yX2_existingPerson.desc).map (fun d => d.parameters.length) = some 1 := by decide +kernel
set_option maxHeartbeats 4000000 in
set_option maxRecDepth 100000 in
theorem c_X2_standing (l : Launch) (hfl : l.stackTraces = false) {K : zz_G} {A : Nat → Prop} {ad : Nat → Nat → Nat} {E : Nat → Nat → Int32} {cap : Nat → Nat} {N : Nat → Nat → Nat} {G : Nat → Nat → Int32} {L : Nat → Int64} (hI : zq N) (hk : zk K ad cap N) (x : Int32) : zz_C l yX2_standing cX2_standing 2 (Option.some FieldType.int) ({ frames := 7, cells := 1, slots := 6, locals := 117 } : Room) K A [.ref (ad 0 0), .int x] (fun H => zz_W K A ad (zx_c K ad E cap N G L) H) (fun v9 _ H9 => (zs_standing N x).1 = 0 ∧ v9 = some (.int (zs_standing N x).2)) (fun E9 _ _ => (E9 = "java/util/NoSuchElementException" ∧ (zs_standing N x).1 = 1)) zz_no := by
  refine zz_body (by decide +kernel) (Nat.le_of_ble_eq_true rfl) ?_
  intro p e s m below meth c ls hx hb hr hml hts hown hlocks hmn htab hE hA hP hl
  have hN := hE.N
  have hK := hE.K
  have hown : s.vm.findClass RX2 = some m.cls := hown
  have hl : lv_has ls 2 [(0, .ref (ad 0 0)), (1, .int x)] := hl
  have hZ : zz_Z K A s ad (zx_c K ad E cap N G L) s.heap := ⟨hE, hA, hP⟩
  have hS : va_S zz_no s.heap s.heap [] := va_S.rf
  obtain ⟨H, hH⟩ : ∃ z, z = s.heap := ⟨_, rfl⟩
  have hS0 : va_S zz_no s.heap H [] := by rw [hH]; exact hS
  rw [← hH] at hZ
  have hE0 := hE
  clear hS
  have hS := hS0
  have hB := hI.B
  have hbk := hI.bk
  have h00 := hI.f
  have h01 := hI.p
  have h02 := hI.b
  have hk0 := hk 0 (by decide)
  have hk1 := hk 1 (by decide)
  have hk2 := hk 2 (by decide)
  have hnk : ∀ f, nI (f + 1) - 1 = nI f := fun f => (zz_nk f).symm
  have hnk0 : nI 0 - 1 = -1 := zz_k0.symm
  show W p l e _ s m _ below meth c s.heap [] 0 0 _ (F0 m 0 ls [])
  rw [← hH]
  refine lv_aload_n hx hb dX2_standing_0 rfl (lv_at hl 0 rfl) ?_
  refine lv_iload_n hx hb dX2_standing_1 rfl (lv_at hl 1 rfl) ?_
  refine zz_afterX (A := zz_no) (pc := 2) rfl (zz_runV (ci := 5) (q0 := (RX2, TX2, 8)) (b := ad 0 0) (As := [.int x]) (rest := []) hx hb hml hown hts (c_X2_existingPerson l hfl (K := K) (A := A) (ad := ad) (E := E) (cap := cap) (N := N) (G := G) (L := L) hI hk x) zw_521 zw_523 zs_17 zw_1 zw_524 zd_X2_existingPerson ⟨Nat.le_of_ble_eq_true rfl, Nat.le_of_ble_eq_true rfl⟩ hZ.E hZ.A (zx_ob hZ.W).1 rfl rfl hZ.W hl.1 (Nat.le_of_ble_eq_true rfl) dX2_standing_2 ⟨Nat.le_of_ble_eq_true rfl, Nat.le_of_ble_eq_true rfl⟩) hS (fun _ h => h.elim) htab hlocks (Nat.le_of_ble_eq_true rfl) (Nat.le_of_ble_eq_true rfl) (fun E9 H9 hx9 hf9 => ⟨hx9.1, by unfold zs_standing; rw [if_pos hx9.2]⟩) (fun v_4 H locs hq_2 hF_3 hS => ?_) (fun _ h => h.elim)
  refine W.widen (k := 1) (n := 6) (Nat.le_of_ble_eq_true rfl) (Nat.le_of_ble_eq_true rfl) ?_
  obtain ⟨j_1, hj_1, rfl, rfl⟩ := hq_2
  have hj_1c : (nI j_1).toNatClampNeg = j_1 := nI_clamp (by omega)
  have hj_1b : j_1 < 2 ^ 31 := by omega
  have hzj_1 := zin_nI hj_1 (show N 0 1 < 2 ^ 31 by omega)
  have hsmj_1 := hI.sm j_1
  have hZ := hZ.ro hF_3
  refine W.eq (g2 := F0 m 5 ls [.ref (ad 5 j_1)]) rfl ?_
  refine zz_getN (ci := 4) (C := RX1) (T := TX1) (N := 7) (v := .int (nI (N 5 j_1))) hx hb hts hN hown hK (zx_pe hZ.W (q := j_1) hj_1).1 rfl zf_X1 2 (by decide) zn_489 (fun _ h9 => h9) rfl dX2_standing_5 ?_
  refine zz_iret hx hb hr hlocks hS (Nat.le_of_ble_eq_true rfl) (Nat.le_of_ble_eq_true rfl) dX2_standing_8 ?_
  have e9 : (zs_standing N (nI j_1)) = (0, nI (N 5 j_1)) := by first | (simp [zs_standing, hj_1c, hzj_1]; done) | (simp_all [zs_standing]; done)
  rw [e9]; exact ⟨rfl, rfl⟩

set_option maxHeartbeats 4000000 in
set_option maxRecDepth 100000 in
theorem c_X2_warmth (l : Launch) (hfl : l.stackTraces = false) {K : zz_G} {A : Nat → Prop} {ad : Nat → Nat → Nat} {E : Nat → Nat → Int32} {cap : Nat → Nat} {N : Nat → Nat → Nat} {G : Nat → Nat → Int32} {L : Nat → Int64} (hI : zq N) (hk : zk K ad cap N) (x : Int32) : zz_C l yX2_warmth cX2_warmth 2 (Option.some FieldType.int) ({ frames := 7, cells := 1, slots := 6, locals := 117 } : Room) K A [.ref (ad 0 0), .int x] (fun H => zz_W K A ad (zx_c K ad E cap N G L) H) (fun v9 _ H9 => (zs_warmth N G 0 x).1 = 0 ∧ v9 = some (.int (zs_warmth N G 0 x).2)) (fun E9 _ _ => (E9 = "java/lang/IndexOutOfBoundsException" ∧ (zs_warmth N G 0 x).1 = 1)) zz_no := by
  refine zz_body (by decide +kernel) (Nat.le_of_ble_eq_true rfl) ?_
  intro p e s m below meth c ls hx hb hr hml hts hown hlocks hmn htab hE hA hP hl
  have hN := hE.N
  have hK := hE.K
  have hown : s.vm.findClass RX2 = some m.cls := hown
  have hl : lv_has ls 2 [(0, .ref (ad 0 0)), (1, .int x)] := hl
  have hZ : zz_Z K A s ad (zx_c K ad E cap N G L) s.heap := ⟨hE, hA, hP⟩
  have hS : va_S zz_no s.heap s.heap [] := va_S.rf
  obtain ⟨H, hH⟩ : ∃ z, z = s.heap := ⟨_, rfl⟩
  have hS0 : va_S zz_no s.heap H [] := by rw [hH]; exact hS
  rw [← hH] at hZ
  have hE0 := hE
  clear hS
  have hS := hS0
  have hB := hI.B
  have hbk := hI.bk
  have h00 := hI.f
  have h01 := hI.p
  have h02 := hI.b
  have hk0 := hk 0 (by decide)
  have hk1 := hk 1 (by decide)
  have hk2 := hk 2 (by decide)
  have hnk : ∀ f, nI (f + 1) - 1 = nI f := fun f => (zz_nk f).symm
  have hnk0 : nI 0 - 1 = -1 := zz_k0.symm
  show W p l e _ s m _ below meth c s.heap [] 0 0 _ (F0 m 0 ls [])
  rw [← hH]
  refine lv_aload_n hx hb dX2_warmth_0 rfl (lv_at hl 0 rfl) ?_
  refine lv_iload_n hx hb dX2_warmth_1 rfl (lv_at hl 1 rfl) ?_
  refine zz_afterX (A := zz_no) (pc := 2) rfl (zz_runV (ci := 5) (q0 := (RX2, TX2, 8)) (b := ad 0 0) (As := [.int x]) (rest := []) hx hb hml hown hts (c_X2_existingFloor l hfl (K := K) (A := A) (ad := ad) (E := E) (cap := cap) (N := N) (G := G) (L := L) hI hk x) zw_450 zw_452 zs_16 zw_1 zw_453 zd_X2_existingFloor ⟨Nat.le_of_ble_eq_true rfl, Nat.le_of_ble_eq_true rfl⟩ hZ.E hZ.A (zx_ob hZ.W).1 rfl rfl hZ.W hl.1 (Nat.le_of_ble_eq_true rfl) dX2_warmth_2 ⟨Nat.le_of_ble_eq_true rfl, Nat.le_of_ble_eq_true rfl⟩) hS (fun _ h => h.elim) htab hlocks (Nat.le_of_ble_eq_true rfl) (Nat.le_of_ble_eq_true rfl) (fun E9 H9 hx9 hf9 => ⟨hx9.1, by unfold zs_warmth; rw [if_pos hx9.2]⟩) (fun v_4 H locs hq_2 hF_3 hS => ?_) (fun _ h => h.elim)
  refine W.widen (k := 1) (n := 6) (Nat.le_of_ble_eq_true rfl) (Nat.le_of_ble_eq_true rfl) ?_
  obtain ⟨j_1, hj_1, rfl, rfl⟩ := hq_2
  have hj_1c : (nI j_1).toNatClampNeg = j_1 := nI_clamp (by omega)
  have hj_1b : j_1 < 2 ^ 31 := by omega
  have hzj_1 := zin_nI hj_1 (show N 0 0 < 2 ^ 31 by omega)
  have hsmj_1 := hI.sm j_1
  have hZ := hZ.ro hF_3
  refine W.eq (g2 := F0 m 5 ls [.ref (ad 3 j_1)]) rfl ?_
  refine zz_getN (ci := 3) (C := RX0) (T := TX0) (N := 7) (v := .int (G 0 j_1)) hx hb hts hN hown hK (zx_fl hZ.W (f := j_1) hj_1).1 rfl zf_X0 4 (by decide) zn_342 (fun _ h9 => h9) rfl dX2_warmth_5 ?_
  refine zz_iret hx hb hr hlocks hS (Nat.le_of_ble_eq_true rfl) (Nat.le_of_ble_eq_true rfl) dX2_warmth_8 ?_
  have e9 : (zs_warmth N G 0 (nI j_1)) = (0, G 0 j_1) := by first | (simp [zs_warmth, hj_1c, hzj_1]; done) | (simp_all [zs_warmth]; done)
  rw [e9]; exact ⟨rfl, rfl⟩

set_option maxHeartbeats 4000000 in
set_option maxRecDepth 100000 in
theorem c_X2_air (l : Launch) (hfl : l.stackTraces = false) {K : zz_G} {A : Nat → Prop} {ad : Nat → Nat → Nat} {E : Nat → Nat → Int32} {cap : Nat → Nat} {N : Nat → Nat → Nat} {G : Nat → Nat → Int32} {L : Nat → Int64} (hI : zq N) (hk : zk K ad cap N) (x : Int32) : zz_C l yX2_air cX2_air 2 (Option.some FieldType.int) ({ frames := 7, cells := 1, slots := 6, locals := 117 } : Room) K A [.ref (ad 0 0), .int x] (fun H => zz_W K A ad (zx_c K ad E cap N G L) H) (fun v9 _ H9 => (zs_warmth N G 1 x).1 = 0 ∧ v9 = some (.int (zs_warmth N G 1 x).2)) (fun E9 _ _ => (E9 = "java/lang/IndexOutOfBoundsException" ∧ (zs_warmth N G 1 x).1 = 1)) zz_no := by
  refine zz_body (by decide +kernel) (Nat.le_of_ble_eq_true rfl) ?_
  intro p e s m below meth c ls hx hb hr hml hts hown hlocks hmn htab hE hA hP hl
  have hN := hE.N
  have hK := hE.K
  have hown : s.vm.findClass RX2 = some m.cls := hown
  have hl : lv_has ls 2 [(0, .ref (ad 0 0)), (1, .int x)] := hl
  have hZ : zz_Z K A s ad (zx_c K ad E cap N G L) s.heap := ⟨hE, hA, hP⟩
  have hS : va_S zz_no s.heap s.heap [] := va_S.rf
  obtain ⟨H, hH⟩ : ∃ z, z = s.heap := ⟨_, rfl⟩
  have hS0 : va_S zz_no s.heap H [] := by rw [hH]; exact hS
  rw [← hH] at hZ
  have hE0 := hE
  clear hS
  have hS := hS0
  have hB := hI.B
  have hbk := hI.bk
  have h00 := hI.f
  have h01 := hI.p
  have h02 := hI.b
  have hk0 := hk 0 (by decide)
  have hk1 := hk 1 (by decide)
  have hk2 := hk 2 (by decide)
  have hnk : ∀ f, nI (f + 1) - 1 = nI f := fun f => (zz_nk f).symm
  have hnk0 : nI 0 - 1 = -1 := zz_k0.symm
  show W p l e _ s m _ below meth c s.heap [] 0 0 _ (F0 m 0 ls [])
  rw [← hH]
  refine lv_aload_n hx hb dX2_air_0 rfl (lv_at hl 0 rfl) ?_
  refine lv_iload_n hx hb dX2_air_1 rfl (lv_at hl 1 rfl) ?_
  refine zz_afterX (A := zz_no) (pc := 2) rfl (zz_runV (ci := 5) (q0 := (RX2, TX2, 8)) (b := ad 0 0) (As := [.int x]) (rest := []) hx hb hml hown hts (c_X2_existingFloor l hfl (K := K) (A := A) (ad := ad) (E := E) (cap := cap) (N := N) (G := G) (L := L) hI hk x) zw_450 zw_452 zs_16 zw_1 zw_453 zd_X2_existingFloor ⟨Nat.le_of_ble_eq_true rfl, Nat.le_of_ble_eq_true rfl⟩ hZ.E hZ.A (zx_ob hZ.W).1 rfl rfl hZ.W hl.1 (Nat.le_of_ble_eq_true rfl) dX2_air_2 ⟨Nat.le_of_ble_eq_true rfl, Nat.le_of_ble_eq_true rfl⟩) hS (fun _ h => h.elim) htab hlocks (Nat.le_of_ble_eq_true rfl) (Nat.le_of_ble_eq_true rfl) (fun E9 H9 hx9 hf9 => ⟨hx9.1, by unfold zs_warmth; rw [if_pos hx9.2]⟩) (fun v_4 H locs hq_2 hF_3 hS => ?_) (fun _ h => h.elim)
  refine W.widen (k := 1) (n := 6) (Nat.le_of_ble_eq_true rfl) (Nat.le_of_ble_eq_true rfl) ?_
  obtain ⟨j_1, hj_1, rfl, rfl⟩ := hq_2
  have hj_1c : (nI j_1).toNatClampNeg = j_1 := nI_clamp (by omega)
  have hj_1b : j_1 < 2 ^ 31 := by omega
  have hzj_1 := zin_nI hj_1 (show N 0 0 < 2 ^ 31 by omega)
  have hsmj_1 := hI.sm j_1
  have hZ := hZ.ro hF_3
  refine W.eq (g2 := F0 m 5 ls [.ref (ad 3 j_1)]) rfl ?_
  refine zz_getN (ci := 3) (C := RX0) (T := TX0) (N := 7) (v := .int (G 1 j_1)) hx hb hts hN hown hK (zx_fl hZ.W (f := j_1) hj_1).1 rfl zf_X0 5 (by decide) zn_344 (fun _ h9 => h9) rfl dX2_air_5 ?_
  refine zz_iret hx hb hr hlocks hS (Nat.le_of_ble_eq_true rfl) (Nat.le_of_ble_eq_true rfl) dX2_air_8 ?_
  have e9 : (zs_warmth N G 1 (nI j_1)) = (0, G 1 j_1) := by first | (simp [zs_warmth, hj_1c, hzj_1]; done) | (simp_all [zs_warmth]; done)
  rw [e9]; exact ⟨rfl, rfl⟩

set_option maxHeartbeats 4000000 in
set_option maxRecDepth 100000 in
theorem c_X2_seatOf (l : Launch) (hfl : l.stackTraces = false) {K : zz_G} {A : Nat → Prop} {ad : Nat → Nat → Nat} {E : Nat → Nat → Int32} {cap : Nat → Nat} {N : Nat → Nat → Nat} {G : Nat → Nat → Int32} {L : Nat → Int64} (hI : zq N) (hk : zk K ad cap N) (x : Int32) : zz_C l yX2_seatOf cX2_seatOf 3 (Option.some FieldType.int) ({ frames := 7, cells := 1, slots := 6, locals := 117 } : Room) K A [.ref (ad 0 0), .int x] (fun H => zz_W K A ad (zx_c K ad E cap N G L) H) (fun v9 _ H9 => (zs_seatOf N x).1 = 0 ∧ v9 = some (.int (zs_seatOf N x).2)) (fun E9 _ _ => (E9 = "java/util/NoSuchElementException" ∧ (zs_seatOf N x).1 = 1)) zz_no := by
  refine zz_body (by decide +kernel) (Nat.le_of_ble_eq_true rfl) ?_
  intro p e s m below meth c ls hx hb hr hml hts hown hlocks hmn htab hE hA hP hl
  have hN := hE.N
  have hK := hE.K
  have hown : s.vm.findClass RX2 = some m.cls := hown
  have hl : lv_has ls 3 [(0, .ref (ad 0 0)), (1, .int x)] := hl
  have hZ : zz_Z K A s ad (zx_c K ad E cap N G L) s.heap := ⟨hE, hA, hP⟩
  have hS : va_S zz_no s.heap s.heap [] := va_S.rf
  obtain ⟨H, hH⟩ : ∃ z, z = s.heap := ⟨_, rfl⟩
  have hS0 : va_S zz_no s.heap H [] := by rw [hH]; exact hS
  rw [← hH] at hZ
  have hE0 := hE
  clear hS
  have hS := hS0
  have hB := hI.B
  have hbk := hI.bk
  have h00 := hI.f
  have h01 := hI.p
  have h02 := hI.b
  have hk0 := hk 0 (by decide)
  have hk1 := hk 1 (by decide)
  have hk2 := hk 2 (by decide)
  have hnk : ∀ f, nI (f + 1) - 1 = nI f := fun f => (zz_nk f).symm
  have hnk0 : nI 0 - 1 = -1 := zz_k0.symm
  show W p l e _ s m _ below meth c s.heap [] 0 0 _ (F0 m 0 ls [])
  rw [← hH]
  refine lv_aload_n hx hb dX2_seatOf_0 rfl (lv_at hl 0 rfl) ?_
  refine lv_iload_n hx hb dX2_seatOf_1 rfl (lv_at hl 1 rfl) ?_
  refine zz_afterX (A := zz_no) (pc := 2) rfl (zz_runV (ci := 5) (q0 := (RX2, TX2, 8)) (b := ad 0 0) (As := [.int x]) (rest := []) hx hb hml hown hts (c_X2_existingPerson l hfl (K := K) (A := A) (ad := ad) (E := E) (cap := cap) (N := N) (G := G) (L := L) hI hk x) zw_521 zw_523 zs_17 zw_1 zw_524 zd_X2_existingPerson ⟨Nat.le_of_ble_eq_true rfl, Nat.le_of_ble_eq_true rfl⟩ hZ.E hZ.A (zx_ob hZ.W).1 rfl rfl hZ.W hl.1 (Nat.le_of_ble_eq_true rfl) dX2_seatOf_2 ⟨Nat.le_of_ble_eq_true rfl, Nat.le_of_ble_eq_true rfl⟩) hS (fun _ h => h.elim) htab hlocks (Nat.le_of_ble_eq_true rfl) (Nat.le_of_ble_eq_true rfl) (fun E9 H9 hx9 hf9 => ⟨hx9.1, by unfold zs_seatOf; rw [if_pos hx9.2]⟩) (fun v_4 H locs hq_2 hF_3 hS => ?_) (fun _ h => h.elim)
  refine W.widen (k := 1) (n := 6) (Nat.le_of_ble_eq_true rfl) (Nat.le_of_ble_eq_true rfl) ?_
  obtain ⟨j_1, hj_1, rfl, rfl⟩ := hq_2
  have hj_1c : (nI j_1).toNatClampNeg = j_1 := nI_clamp (by omega)
  have hj_1b : j_1 < 2 ^ 31 := by omega
  have hzj_1 := zin_nI hj_1 (show N 0 1 < 2 ^ 31 by omega)
  have hsmj_1 := hI.sm j_1
  have hZ := hZ.ro hF_3
  refine W.eq (g2 := F0 m 5 ls [.ref (ad 5 j_1)]) rfl ?_
  rcases (show N 6 j_1 = 0 ∨ ∃ z, N 6 j_1 = z + 1 by cases (N 6 j_1) with | zero => exact Or.inl rfl | succ z => exact Or.inr ⟨z, rfl⟩) with h_5 | ⟨j_6, h_5⟩
  · skip
    refine zz_getN (ci := 4) (C := RX1) (T := TX1) (N := 7) (v := .null) hx hb hts hN hown hK (zx_pe hZ.W (q := j_1) hj_1).1 rfl zf_X1 4 (by decide) zn_493 (fun _ h9 => h9) (congrArg (fun x => some (zz_rf (ad 3) x)) h_5) dX2_seatOf_5 ?_
    refine lv_astore_nN (lv' := [(2, .null), (0, .ref (ad 0 0)), (1, .int (nI j_1))]) hx hb dX2_seatOf_8 rfl hl (Nat.le_of_ble_eq_true rfl) rfl (fun ls hl => ?_)
    refine lv_aload_nN hx hb dX2_seatOf_9 rfl (lv_at hl 0 rfl) ?_
    refine lv_ifnonnullN hx hb dX2_seatOf_10 ?_
    refine lv_iconst (v := (-1)) hx hb dX2_seatOf_13 (by decide) ?_
    refine lv_goto (tgt := 21) hx hb dX2_seatOf_14 (by decide) ?_
    refine zz_iret hx hb hr hlocks hS (Nat.le_of_ble_eq_true rfl) (Nat.le_of_ble_eq_true rfl) dX2_seatOf_21 ?_
    have e9 : (zs_seatOf N (nI j_1)) = (0, (-1)) := by first | (simp [zs_seatOf, hj_1c, hzj_1, h_5]; done) | (simp_all [zs_seatOf]; done)
    rw [e9]; exact ⟨rfl, rfl⟩
  · skip
    have hj_7 : j_6 < N 0 0 := by have := hI.st j_1 hj_1; omega
    refine zz_getN (ci := 4) (C := RX1) (T := TX1) (N := 7) (v := .ref (ad 3 j_6)) hx hb hts hN hown hK (zx_pe hZ.W (q := j_1) hj_1).1 rfl zf_X1 4 (by decide) zn_493 (fun _ h9 => h9) (congrArg (fun x => some (zz_rf (ad 3) x)) h_5) dX2_seatOf_5 ?_
    refine lv_astore_n (lv' := [(2, .ref (ad 3 j_6)), (0, .ref (ad 0 0)), (1, .int (nI j_1))]) hx hb dX2_seatOf_8 rfl hl (Nat.le_of_ble_eq_true rfl) rfl (fun ls hl => ?_)
    refine lv_aload_n hx hb dX2_seatOf_9 rfl (lv_at hl 0 rfl) ?_
    refine lv_ifnonnull (tgt := 17) hx hb dX2_seatOf_10 (by decide) ?_
    refine lv_aload_n hx hb dX2_seatOf_17 rfl (lv_at hl 0 rfl) ?_
    refine zz_getN (ci := 3) (C := RX0) (T := TX0) (N := 7) (v := .int (nI j_6)) hx hb hts hN hown hK (zx_fl hZ.W (f := j_6) hj_7).1 rfl zf_X0 0 (by decide) zn_334 (fun _ h9 => h9) rfl dX2_seatOf_18 ?_
    refine zz_iret hx hb hr hlocks hS (Nat.le_of_ble_eq_true rfl) (Nat.le_of_ble_eq_true rfl) dX2_seatOf_21 ?_
    have e9 : (zs_seatOf N (nI j_1)) = (0, nI j_6) := by first | (simp [zs_seatOf, hj_1c, hzj_1, h_5]; done) | (simp_all [zs_seatOf]; done)
    rw [e9]; exact ⟨rfl, rfl⟩

set_option maxHeartbeats 4000000 in
set_option maxRecDepth 100000 in
theorem c_X2_bookingAt (l : Launch) (hfl : l.stackTraces = false) {K : zz_G} {A : Nat → Prop} {ad : Nat → Nat → Nat} {E : Nat → Nat → Int32} {cap : Nat → Nat} {N : Nat → Nat → Nat} {G : Nat → Nat → Int32} {L : Nat → Int64} (hI : zq N) (hk : zk K ad cap N) (x : Int32) : zz_C l yX2_bookingAt cX2_bookingAt 2 (Option.some FieldType.int) ({ frames := 6, cells := 1, slots := 6, locals := 96 } : Room) K A [.ref (ad 0 0), .int x] (fun H => zz_W K A ad (zx_c K ad E cap N G L) H) (fun v9 _ H9 => (zs_bookingAt N x).1 = 0 ∧ v9 = some (.int (zs_bookingAt N x).2)) (fun E9 _ _ => (E9 = "java/lang/IndexOutOfBoundsException" ∧ (zs_bookingAt N x).1 = 1)) zz_no := by
  refine zz_body (by decide +kernel) (Nat.le_of_ble_eq_true rfl) ?_
  intro p e s m below meth c ls hx hb hr hml hts hown hlocks hmn htab hE hA hP hl
  have hN := hE.N
  have hK := hE.K
  have hown : s.vm.findClass RX2 = some m.cls := hown
  have hl : lv_has ls 2 [(0, .ref (ad 0 0)), (1, .int x)] := hl
  have hZ : zz_Z K A s ad (zx_c K ad E cap N G L) s.heap := ⟨hE, hA, hP⟩
  have hS : va_S zz_no s.heap s.heap [] := va_S.rf
  obtain ⟨H, hH⟩ : ∃ z, z = s.heap := ⟨_, rfl⟩
  have hS0 : va_S zz_no s.heap H [] := by rw [hH]; exact hS
  rw [← hH] at hZ
  have hE0 := hE
  clear hS
  have hS := hS0
  have hB := hI.B
  have hbk := hI.bk
  have h00 := hI.f
  have h01 := hI.p
  have h02 := hI.b
  have hk0 := hk 0 (by decide)
  have hk1 := hk 1 (by decide)
  have hk2 := hk 2 (by decide)
  have hnk : ∀ f, nI (f + 1) - 1 = nI f := fun f => (zz_nk f).symm
  have hnk0 : nI 0 - 1 = -1 := zz_k0.symm
  show W p l e _ s m _ below meth c s.heap [] 0 0 _ (F0 m 0 ls [])
  rw [← hH]
  refine lv_iload_n hx hb dX2_bookingAt_0 rfl (lv_at hl 1 rfl) ?_
  refine lv_if_lt (tgt := 15) hx hb dX2_bookingAt_1 (by decide) (fun c_1 => ?_) (fun c_1 => ?_)
  · skip
    refine zz_throw (cls := "java/lang/IndexOutOfBoundsException") (is := 126) hx hb hfl hown hts hE0 zx_128 zw_454 zw_16 zt_126 hS (fun _ h => h) hl.1 hml dX2_bookingAt_15 dX2_bookingAt_18 dX2_bookingAt_19 dX2_bookingAt_21 dX2_bookingAt_24 htab (Nat.le_of_ble_eq_true rfl) (Nat.le_of_ble_eq_true rfl) (Nat.le_of_ble_eq_true rfl) (Nat.le_of_ble_eq_true rfl) hlocks (fun H9 hf9 => ?_) (Nat.le_of_ble_eq_true rfl) (Nat.le_of_ble_eq_true rfl)
    exact ⟨rfl, by (unfold zs_bookingAt; rw [if_pos (fun h => by first | exact h.1 (by assumption) | exact h.2 (Int32.not_lt.mp (by assumption)))])⟩
  · skip
    refine lv_iload_n hx hb dX2_bookingAt_4 rfl (lv_at hl 1 rfl) ?_
    refine lv_aload_n hx hb dX2_bookingAt_5 rfl (lv_at hl 0 rfl) ?_
    refine zz_get (ci := 5) (C := RX2) (T := TX2) (N := 8) (v := .ref (ad 1 2)) hx hb hts hown hK (zx_ob hZ.W).1 rfl zf_X2 2 (by decide) zw_61 (fun _ h9 => h9) rfl dX2_bookingAt_6 ?_
    refine zz_after (pc := 9) rfl (zz_runV (ci := 2) (q0 := (RJx4a65c, TJx4a65c, 3)) (b := ad 1 2) (As := []) (rest := [.int x]) hx hb hml hown hts (c_Jx4a65c_size_8abf5 l (K := K) (A := A) (ad := ad) (E := E) (cap := cap) (N := N) (G := G) (L := L) hk (by decide)) zw_88 zw_89 zw_90 zw_4 zw_91 zd_Jx4a65c_size_8abf5 ⟨Nat.le_of_ble_eq_true rfl, Nat.le_of_ble_eq_true rfl⟩ hZ.E hZ.A (zx_li hZ.W (t := 2) (by decide)).1 rfl rfl hZ.W hl.1 (Nat.le_of_ble_eq_true rfl) dX2_bookingAt_9 ⟨Nat.le_of_ble_eq_true rfl, Nat.le_of_ble_eq_true rfl⟩) hS (fun _ h => h.elim) (fun v_4 H locs hq_2 hF_3 hS => ?_)
    refine W.widen (k := 0) (n := 0) (Nat.le_of_ble_eq_true rfl) (Nat.le_of_ble_eq_true rfl) ?_
    obtain rfl := hq_2
    have hZ := hZ.ro hF_3
    refine W.eq (g2 := F0 m 12 ls [.int (nI (N 0 2)), .int x]) rfl ?_
    refine lv_icmp_lt (tgt := 25) hx hb dX2_bookingAt_12 (by decide) (fun c_5 => ?_) (fun c_5 => ?_)
    · skip
      obtain ⟨j, hj, rfl⟩ := zz_rng (by omega) (by assumption) (Int32.not_le.mpr c_5)
      have hjc : (nI j).toNatClampNeg = j := nI_clamp (by omega)
      have hjb : j < 2 ^ 31 := by omega
      have hzj := zin_nI hj (show N 0 2 < 2 ^ 31 by omega)
      refine lv_aload_n hx hb dX2_bookingAt_25 rfl (lv_at hl 0 rfl) ?_
      refine zz_get (ci := 5) (C := RX2) (T := TX2) (N := 8) (v := .ref (ad 1 2)) hx hb hts hown hK (zx_ob hZ.W).1 rfl zf_X2 2 (by decide) zw_61 (fun _ h9 => h9) rfl dX2_bookingAt_26 ?_
      refine lv_iload_n hx hb dX2_bookingAt_29 rfl (lv_at hl 1 rfl) ?_
      have hj_6 : j < N 0 2 := by omega
      have hp_7 : N 9 j < N 0 1 := hbk _ hj_6
      refine zz_after (pc := 30) rfl (zz_runV (ci := 2) (q0 := (RJx4a65c, TJx4a65c, 3)) (b := ad 1 2) (As := [.int (nI j)]) (rest := []) hx hb hml hown hts (c_Jx4a65c_get_915e3 l (K := K) (A := A) (ad := ad) (E := E) (cap := cap) (N := N) (G := G) (L := L) hk (by decide) (j := j) (r := (ad 5 (N 9 j))) hj_6 (zx_g2 hj_6)) zw_101 zw_102 zw_103 zw_4 zw_104 zd_Jx4a65c_get_915e3 ⟨Nat.le_of_ble_eq_true rfl, Nat.le_of_ble_eq_true rfl⟩ hZ.E hZ.A (zx_li hZ.W (t := 2) (by decide)).1 rfl rfl hZ.W hl.1 (Nat.le_of_ble_eq_true rfl) dX2_bookingAt_30 ⟨Nat.le_of_ble_eq_true rfl, Nat.le_of_ble_eq_true rfl⟩) hS (fun _ h => h.elim) (fun v_10 H locs hq_8 hF_9 hS => ?_)
      refine W.widen (k := 0) (n := 0) (Nat.le_of_ble_eq_true rfl) (Nat.le_of_ble_eq_true rfl) ?_
      obtain rfl := hq_8
      have hZ := hZ.ro hF_9
      refine W.eq (g2 := F0 m 33 ls [.ref (ad 5 (N 9 j))]) rfl ?_
      refine va_castS hx hb hown (hts _ zw_129) (hK.1 4 _ rfl).2 (zz_rc hK (zx_pe hZ.W (q := N 9 j) hp_7).1 rfl) dX2_bookingAt_33 ?_
      refine zz_getN (ci := 4) (C := RX1) (T := TX1) (N := 7) (v := .int (nI (N 9 j))) hx hb hts hN hown hK (zx_pe hZ.W (q := N 9 j) hp_7).1 rfl zf_X1 0 (by decide) zn_485 (fun _ h9 => h9) rfl dX2_bookingAt_36 ?_
      refine zz_iret hx hb hr hlocks hS (Nat.le_of_ble_eq_true rfl) (Nat.le_of_ble_eq_true rfl) dX2_bookingAt_39 ?_
      have e9 : (zs_bookingAt N (nI j)) = (0, nI (N 9 j)) := by first | (simp [zs_bookingAt, c_1, c_5, hjc]; done) | (simp_all [zs_bookingAt]; done) | (simp [zs_bookingAt, hzj, c_1, c_5, hjc]; done) | (simp_all [zs_bookingAt])
      rw [e9]; exact ⟨rfl, rfl⟩
    · skip
      refine zz_throw (cls := "java/lang/IndexOutOfBoundsException") (is := 126) hx hb hfl hown hts hE0 zx_128 zw_454 zw_16 zt_126 hS (fun _ h => h) hl.1 hml dX2_bookingAt_15 dX2_bookingAt_18 dX2_bookingAt_19 dX2_bookingAt_21 dX2_bookingAt_24 htab (Nat.le_of_ble_eq_true rfl) (Nat.le_of_ble_eq_true rfl) (Nat.le_of_ble_eq_true rfl) (Nat.le_of_ble_eq_true rfl) hlocks (fun H9 hf9 => ?_) (Nat.le_of_ble_eq_true rfl) (Nat.le_of_ble_eq_true rfl)
      exact ⟨rfl, by (unfold zs_bookingAt; rw [if_pos (fun h => by first | exact h.1 (by assumption) | exact h.2 (Int32.not_lt.mp (by assumption)))])⟩

set_option maxHeartbeats 4000000 in
set_option maxRecDepth 100000 in
theorem c_X2_setCost (l : Launch) (hfl : l.stackTraces = false) {K : zz_G} {A : Nat → Prop} {ad : Nat → Nat → Nat} {E : Nat → Nat → Int32} {cap : Nat → Nat} {N : Nat → Nat → Nat} {G : Nat → Nat → Int32} {L : Nat → Int64} (hI : zq N) (hk : zk K ad cap N) (x y : Int32) : zz_C l yX2_setCost cX2_setCost 5 (Option.some FieldType.int) ({ frames := 7, cells := 2, slots := 12, locals := 117 } : Room) K A [.ref (ad 0 0), .int x, .int y] (fun H => zz_W K A ad (zx_c K ad E cap N G L) H) (fun v9 _ H9 => (zs_setCost N x y).1 = 0 ∧ v9 = some (.int (zs_setCost N x y).2.1) ∧ zz_W K A ad (zx_c K ad E cap (zs_setCost N x y).2.2 G L) H9) (fun E9 _ _ => (E9 = "java/lang/IndexOutOfBoundsException" ∧ (zs_setCost N x y).1 = 1) ∨ (E9 = "java/lang/IllegalArgumentException" ∧ (zs_setCost N x y).1 = 2)) A := by
  refine zz_body (by decide +kernel) (Nat.le_of_ble_eq_true rfl) ?_
  intro p e s m below meth c ls hx hb hr hml hts hown hlocks hmn htab hE hA hP hl
  have hN := hE.N
  have hK := hE.K
  have hown : s.vm.findClass RX2 = some m.cls := hown
  have hl : lv_has ls 5 [(0, .ref (ad 0 0)), (1, .int x), (2, .int y)] := hl
  have hZ : zz_Z K A s ad (zx_c K ad E cap N G L) s.heap := ⟨hE, hA, hP⟩
  have hS : va_S zz_no s.heap s.heap [] := va_S.rf
  obtain ⟨H, hH⟩ : ∃ z, z = s.heap := ⟨_, rfl⟩
  have hS0 : va_S zz_no s.heap H [] := by rw [hH]; exact hS
  rw [← hH] at hZ
  have hE0 := hE
  clear hS
  have hS := hS0
  have hB := hI.B
  have hbk := hI.bk
  have h00 := hI.f
  have h01 := hI.p
  have h02 := hI.b
  have hk0 := hk 0 (by decide)
  have hk1 := hk 1 (by decide)
  have hk2 := hk 2 (by decide)
  have hnk : ∀ f, nI (f + 1) - 1 = nI f := fun f => (zz_nk f).symm
  have hnk0 : nI 0 - 1 = -1 := zz_k0.symm
  show W p l e _ s m _ below meth c s.heap [] 0 0 _ (F0 m 0 ls [])
  rw [← hH]
  refine lv_aload_n hx hb dX2_setCost_0 rfl (lv_at hl 0 rfl) ?_
  refine lv_iload_n hx hb dX2_setCost_1 rfl (lv_at hl 1 rfl) ?_
  refine zz_afterX (A := zz_no) (pc := 2) rfl (zz_runV (ci := 5) (q0 := (RX2, TX2, 8)) (b := ad 0 0) (As := [.int x]) (rest := []) hx hb hml hown hts (c_X2_existingFloor l hfl (K := K) (A := A) (ad := ad) (E := E) (cap := cap) (N := N) (G := G) (L := L) hI hk x) zw_450 zw_452 zs_16 zw_1 zw_453 zd_X2_existingFloor ⟨Nat.le_of_ble_eq_true rfl, Nat.le_of_ble_eq_true rfl⟩ hZ.E hZ.A (zx_ob hZ.W).1 rfl rfl hZ.W hl.1 (Nat.le_of_ble_eq_true rfl) dX2_setCost_2 ⟨Nat.le_of_ble_eq_true rfl, Nat.le_of_ble_eq_true rfl⟩) hS (fun _ h => h.elim) htab hlocks (Nat.le_of_ble_eq_true rfl) (Nat.le_of_ble_eq_true rfl) (fun E9 H9 hx9 hf9 => Or.inl ⟨hx9.1, by unfold zs_setCost; rw [if_pos hx9.2]⟩) (fun v_4 H locs hq_2 hF_3 hS => ?_) (fun _ h => h.elim)
  refine W.widen (k := 1) (n := 6) (Nat.le_of_ble_eq_true rfl) (Nat.le_of_ble_eq_true rfl) ?_
  obtain ⟨j_1, hj_1, rfl, rfl⟩ := hq_2
  have hj_1c : (nI j_1).toNatClampNeg = j_1 := nI_clamp (by omega)
  have hj_1b : j_1 < 2 ^ 31 := by omega
  have hzj_1 := zin_nI hj_1 (show N 0 0 < 2 ^ 31 by omega)
  have hsmj_1 := hI.sm j_1
  have hZ := hZ.ro hF_3
  refine W.eq (g2 := F0 m 5 ls [.ref (ad 3 j_1)]) rfl ?_
  refine lv_astore_n (lv' := [(3, .ref (ad 3 j_1)), (0, .ref (ad 0 0)), (1, .int (nI j_1)), (2, .int y)]) hx hb dX2_setCost_5 rfl hl (Nat.le_of_ble_eq_true rfl) rfl (fun ls hl => ?_)
  refine lv_iload_n hx hb dX2_setCost_6 rfl (lv_at hl 3 rfl) ?_
  refine zz_afterX (A := zz_no) (pc := 7) rfl (zz_runS (As := [.int y]) (rest := []) hx hb hml hown hts (c_X2_checkCost l hfl (K := K) (A := A) y) zw_308 zw_309 zw_1 zw_310 zd_X2_checkCost ⟨Nat.le_of_ble_eq_true rfl, Nat.le_of_ble_eq_true rfl⟩ hZ.E hZ.A trivial hl.1 (Nat.le_of_ble_eq_true rfl) dX2_setCost_7 ⟨Nat.le_of_ble_eq_true rfl, Nat.le_of_ble_eq_true rfl⟩) hS (fun _ h => h.elim) htab hlocks (Nat.le_of_ble_eq_true rfl) (Nat.le_of_ble_eq_true rfl) (fun E9 H9 hx9 hf9 => Or.inr ⟨hx9.1, by unfold zs_setCost; rw [if_neg (fun h => h (by assumption)), if_pos hx9.2]⟩) (fun v_8 H locs hq_6 hF_7 hS => ?_) (fun _ h => h.elim)
  refine W.widen (k := 2) (n := 12) (Nat.le_of_ble_eq_true rfl) (Nat.le_of_ble_eq_true rfl) ?_
  obtain ⟨rfl, hzt_5⟩ := hq_6
  obtain ⟨t_5, ht_5, rfl⟩ := zz_rng2 (a := 0) (b := 99) (by decide) (by decide) hzt_5
  have ht_5c : (nI t_5).toNatClampNeg = t_5 := nI_clamp (by omega)
  have hZ := hZ.ro hF_7
  refine W.eq (g2 := F0 m 10 ls []) rfl ?_
  refine lv_aload_n hx hb dX2_setCost_10 rfl (lv_at hl 0 rfl) ?_
  refine zz_getN (ci := 3) (C := RX0) (T := TX0) (N := 7) (v := .int (nI (N 2 j_1))) hx hb hts hN hown hK (zx_fl hZ.W (f := j_1) hj_1).1 rfl zf_X0 2 (by decide) zn_338 (fun _ h9 => h9) rfl dX2_setCost_11 ?_
  refine lv_istore (lv' := [(4, .int (nI (N 2 j_1))), (3, .ref (ad 3 j_1)), (0, .ref (ad 0 0)), (1, .int (nI j_1)), (2, .int (nI t_5))]) hx hb dX2_setCost_14 hl (Nat.le_of_ble_eq_true rfl) rfl (fun ls hl => ?_)
  refine lv_aload_n hx hb dX2_setCost_16 rfl (lv_at hl 1 rfl) ?_
  refine lv_iload_n hx hb dX2_setCost_17 rfl (lv_at hl 4 rfl) ?_
  have hS : va_S A s.heap H _ := zz_Smono hS (fun _ h => h.elim)
  have haA_12 := (zx_fl hZ.W (f := j_1) hj_1).2
  refine zz_putN (ci := 3) (C := RX0) (T := TX0) (N := 7) (v := .int (nI t_5)) (ty1 := .int) hx hb hts hN hown hK hS (zx_fl hZ.W (f := j_1) hj_1).1 haA_12 rfl zf_X0 tyX0_ok nmX0 2 (by decide) zn_338 (fun _ h9 => h9) rfl (by decide +kernel) rfl rfl (Nat.le_of_ble_eq_true rfl) dX2_setCost_18 (fun H locs ha_10 hz_11 ho_9 hS => ?_)
  have hZ : zz_Z K A s ad (zx_c K ad E cap (zu N 2 j_1 t_5) G L) H := hZ.put haA_12 hz_11 ho_9 (zx_put_cost hZ.W hj_1 ha_10 ho_9)
  refine lv_iload hx hb dX2_setCost_21 (lv_at hl 0 rfl) ?_
  refine zz_iret hx hb hr hlocks hS (Nat.le_of_ble_eq_true rfl) (Nat.le_of_ble_eq_true rfl) dX2_setCost_23 ?_
  have e9 : (zs_setCost N (nI j_1) (nI t_5)) = (0, nI (N 2 j_1), (zu N 2 j_1 t_5)) := by first | (simp [zs_setCost, hj_1c, hzj_1, ht_5c, hzt_5]; done) | (simp_all [zs_setCost]; done)
  rw [e9]; exact ⟨rfl, rfl, hZ.W⟩

set_option maxHeartbeats 4000000 in
set_option maxRecDepth 100000 in
theorem c_X2_comeIn (l : Launch) (hfl : l.stackTraces = false) {K : zz_G} {A : Nat → Prop} {ad : Nat → Nat → Nat} {E : Nat → Nat → Int32} {cap : Nat → Nat} {N : Nat → Nat → Nat} {G : Nat → Nat → Int32} {L : Nat → Int64} (hI : zq N) (hk : zk K ad cap N) (x : Int32) : zz_C l yX2_comeIn cX2_comeIn 4 (Option.some FieldType.int) ({ frames := 7, cells := 2, slots := 12, locals := 117 } : Room) K A [.ref (ad 0 0), .int x] (fun H => zz_W K A ad (zx_c K ad E cap N G L) H) (fun v9 _ H9 => (zs_comeIn N x).1 = 0 ∧ v9 = some (.int (zs_comeIn N x).2.1) ∧ zz_W K A ad (zx_c K ad E cap (zs_comeIn N x).2.2 G L) H9) (fun E9 _ _ => (E9 = "java/util/NoSuchElementException" ∧ (zs_comeIn N x).1 = 1) ∨ (E9 = "java/lang/IllegalStateException" ∧ (zs_comeIn N x).1 = 2)) A := by
  refine zz_body (by decide +kernel) (Nat.le_of_ble_eq_true rfl) ?_
  intro p e s m below meth c ls hx hb hr hml hts hown hlocks hmn htab hE hA hP hl
  have hN := hE.N
  have hK := hE.K
  have hown : s.vm.findClass RX2 = some m.cls := hown
  have hl : lv_has ls 4 [(0, .ref (ad 0 0)), (1, .int x)] := hl
  have hZ : zz_Z K A s ad (zx_c K ad E cap N G L) s.heap := ⟨hE, hA, hP⟩
  have hS : va_S zz_no s.heap s.heap [] := va_S.rf
  obtain ⟨H, hH⟩ : ∃ z, z = s.heap := ⟨_, rfl⟩
  have hS0 : va_S zz_no s.heap H [] := by rw [hH]; exact hS
  rw [← hH] at hZ
  have hE0 := hE
  clear hS
  have hS := hS0
  have hB := hI.B
  have hbk := hI.bk
  have h00 := hI.f
  have h01 := hI.p
  have h02 := hI.b
  have hk0 := hk 0 (by decide)
  have hk1 := hk 1 (by decide)
  have hk2 := hk 2 (by decide)
  have hnk : ∀ f, nI (f + 1) - 1 = nI f := fun f => (zz_nk f).symm
  have hnk0 : nI 0 - 1 = -1 := zz_k0.symm
  show W p l e _ s m _ below meth c s.heap [] 0 0 _ (F0 m 0 ls [])
  rw [← hH]
  refine lv_aload_n hx hb dX2_comeIn_0 rfl (lv_at hl 0 rfl) ?_
  refine lv_iload_n hx hb dX2_comeIn_1 rfl (lv_at hl 1 rfl) ?_
  refine zz_afterX (A := zz_no) (pc := 2) rfl (zz_runV (ci := 5) (q0 := (RX2, TX2, 8)) (b := ad 0 0) (As := [.int x]) (rest := []) hx hb hml hown hts (c_X2_existingPerson l hfl (K := K) (A := A) (ad := ad) (E := E) (cap := cap) (N := N) (G := G) (L := L) hI hk x) zw_521 zw_523 zs_17 zw_1 zw_524 zd_X2_existingPerson ⟨Nat.le_of_ble_eq_true rfl, Nat.le_of_ble_eq_true rfl⟩ hZ.E hZ.A (zx_ob hZ.W).1 rfl rfl hZ.W hl.1 (Nat.le_of_ble_eq_true rfl) dX2_comeIn_2 ⟨Nat.le_of_ble_eq_true rfl, Nat.le_of_ble_eq_true rfl⟩) hS (fun _ h => h.elim) htab hlocks (Nat.le_of_ble_eq_true rfl) (Nat.le_of_ble_eq_true rfl) (fun E9 H9 hx9 hf9 => Or.inl ⟨hx9.1, by unfold zs_comeIn; rw [if_pos hx9.2]⟩) (fun v_4 H locs hq_2 hF_3 hS => ?_) (fun _ h => h.elim)
  refine W.widen (k := 1) (n := 6) (Nat.le_of_ble_eq_true rfl) (Nat.le_of_ble_eq_true rfl) ?_
  obtain ⟨j_1, hj_1, rfl, rfl⟩ := hq_2
  have hj_1c : (nI j_1).toNatClampNeg = j_1 := nI_clamp (by omega)
  have hj_1b : j_1 < 2 ^ 31 := by omega
  have hzj_1 := zin_nI hj_1 (show N 0 1 < 2 ^ 31 by omega)
  have hsmj_1 := hI.sm j_1
  have hZ := hZ.ro hF_3
  refine W.eq (g2 := F0 m 5 ls [.ref (ad 5 j_1)]) rfl ?_
  refine lv_astore_n (lv' := [(2, .ref (ad 5 j_1)), (0, .ref (ad 0 0)), (1, .int (nI j_1))]) hx hb dX2_comeIn_5 rfl hl (Nat.le_of_ble_eq_true rfl) rfl (fun ls hl => ?_)
  refine lv_aload_n hx hb dX2_comeIn_6 rfl (lv_at hl 0 rfl) ?_
  rcases (show N 6 j_1 = 0 ∨ ∃ z, N 6 j_1 = z + 1 by cases (N 6 j_1) with | zero => exact Or.inl rfl | succ z => exact Or.inr ⟨z, rfl⟩) with h_5 | ⟨j_6, h_5⟩
  · skip
    refine zz_getN (ci := 4) (C := RX1) (T := TX1) (N := 7) (v := .null) hx hb hts hN hown hK (zx_pe hZ.W (q := j_1) hj_1).1 rfl zf_X1 4 (by decide) zn_493 (fun _ h9 => h9) (congrArg (fun x => some (zz_rf (ad 3) x)) h_5) dX2_comeIn_7 ?_
    refine lv_astore_nN (lv' := [(3, .null), (2, .ref (ad 5 j_1)), (0, .ref (ad 0 0)), (1, .int (nI j_1))]) hx hb dX2_comeIn_10 rfl hl (Nat.le_of_ble_eq_true rfl) rfl (fun ls hl => ?_)
    refine lv_aload_nN hx hb dX2_comeIn_11 rfl (lv_at hl 0 rfl) ?_
    refine lv_ifnonnullN hx hb dX2_comeIn_12 ?_
    refine zz_throw (cls := "java/util/NoSuchElementException") (is := 178) hx hb hfl hown hts hE0 zx_116 zw_525 zw_22 zt_178 hS (fun _ h => h) hl.1 hml dX2_comeIn_15 dX2_comeIn_18 dX2_comeIn_19 dX2_comeIn_21 dX2_comeIn_24 htab (Nat.le_of_ble_eq_true rfl) (Nat.le_of_ble_eq_true rfl) (Nat.le_of_ble_eq_true rfl) (Nat.le_of_ble_eq_true rfl) hlocks (fun H9 hf9 => ?_) (Nat.le_of_ble_eq_true rfl) (Nat.le_of_ble_eq_true rfl)
    exact Or.inl ⟨rfl, by simp_all [zs_comeIn]⟩
  · skip
    have hj_7 : j_6 < N 0 0 := by have := hI.st j_1 hj_1; omega
    refine zz_getN (ci := 4) (C := RX1) (T := TX1) (N := 7) (v := .ref (ad 3 j_6)) hx hb hts hN hown hK (zx_pe hZ.W (q := j_1) hj_1).1 rfl zf_X1 4 (by decide) zn_493 (fun _ h9 => h9) (congrArg (fun x => some (zz_rf (ad 3) x)) h_5) dX2_comeIn_7 ?_
    refine lv_astore_n (lv' := [(3, .ref (ad 3 j_6)), (2, .ref (ad 5 j_1)), (0, .ref (ad 0 0)), (1, .int (nI j_1))]) hx hb dX2_comeIn_10 rfl hl (Nat.le_of_ble_eq_true rfl) rfl (fun ls hl => ?_)
    refine lv_aload_n hx hb dX2_comeIn_11 rfl (lv_at hl 0 rfl) ?_
    refine lv_ifnonnull (tgt := 25) hx hb dX2_comeIn_12 (by decide) ?_
    refine lv_aload_n hx hb dX2_comeIn_25 rfl (lv_at hl 1 rfl) ?_
    refine zz_getN (ci := 4) (C := RX1) (T := TX1) (N := 7) (v := .int (nI (N 7 j_1))) hx hb hts hN hown hK (zx_pe hZ.W (q := j_1) hj_1).1 rfl zf_X1 5 (by decide) zn_495 (fun _ h9 => h9) rfl dX2_comeIn_26 ?_
    refine zz_if_eq (tgt := 42) (by first | exact hB _ _ | exact hUa _ | exact hUb _ | exact hUc _ | exact hUd _ | omega) hx hb dX2_comeIn_29 (by decide) (fun c_8 => ?_) (fun c_8 => ?_)
    · skip
      refine lv_aload_n hx hb dX2_comeIn_42 rfl (lv_at hl 1 rfl) ?_
      refine zz_con 1 hx hb dX2_comeIn_43 (by decide) ?_
      have hS : va_S A s.heap H _ := zz_Smono hS (fun _ h => h.elim)
      have haA_12 := (zx_pe hZ.W (q := j_1) hj_1).2
      refine zz_putN (ci := 4) (C := RX1) (T := TX1) (N := 7) (v := .int (nI 1)) (ty1 := .boolean) hx hb hts hN hown hK hS (zx_pe hZ.W (q := j_1) hj_1).1 haA_12 rfl zf_X1 tyX1_ok nmX1 5 (by decide) zn_495 (fun _ h9 => h9) rfl (by decide +kernel) (by rcases (show nI 1 = 0 ∨ nI 1 = 1 by decide) with h | h <;> rw [h] <;> rfl) (by rcases (show nI 1 = 0 ∨ nI 1 = 1 by decide) with h | h <;> rw [h] <;> rfl) (Nat.le_of_ble_eq_true rfl) dX2_comeIn_44 (fun H locs ha_10 hz_11 ho_9 hS => ?_)
      have hZ : zz_Z K A s ad (zx_c K ad E cap (zu N 7 j_1 1) G L) H := hZ.put haA_12 hz_11 ho_9 (zx_put_in hZ.W hj_1 ha_10 ho_9)
      refine lv_aload_n hx hb dX2_comeIn_47 rfl (lv_at hl 1 rfl) ?_
      refine zz_con 1 hx hb dX2_comeIn_48 (by decide) ?_
      have haA_16 := (zx_pe hZ.W (q := j_1) hj_1).2
      refine zz_putN (ci := 4) (C := RX1) (T := TX1) (N := 7) (v := .int (nI 1)) (ty1 := .boolean) hx hb hts hN hown hK hS (zx_pe hZ.W (q := j_1) hj_1).1 haA_16 rfl zf_X1 tyX1_ok nmX1 6 (by decide) zn_497 (fun _ h9 => h9) rfl (by decide +kernel) (by rcases (show nI 1 = 0 ∨ nI 1 = 1 by decide) with h | h <;> rw [h] <;> rfl) (by rcases (show nI 1 = 0 ∨ nI 1 = 1 by decide) with h | h <;> rw [h] <;> rfl) (Nat.le_of_ble_eq_true rfl) dX2_comeIn_49 (fun H locs ha_14 hz_15 ho_13 hS => ?_)
      have hZ : zz_Z K A s ad (zx_c K ad E cap (zu (zu N 7 j_1 1) 8 j_1 1) G L) H := hZ.put haA_16 hz_15 ho_13 (zx_put_came hZ.W hj_1 ha_14 ho_13)
      refine lv_aload_n hx hb dX2_comeIn_52 rfl (lv_at hl 0 rfl) ?_
      refine zz_getN (ci := 3) (C := RX0) (T := TX0) (N := 7) (v := .int (nI j_6)) hx hb hts hN hown hK (zx_fl hZ.W (f := j_6) hj_7).1 rfl zf_X0 0 (by decide) zn_334 (fun _ h9 => h9) rfl dX2_comeIn_53 ?_
      refine zz_iret hx hb hr hlocks hS (Nat.le_of_ble_eq_true rfl) (Nat.le_of_ble_eq_true rfl) dX2_comeIn_56 ?_
      have e9 : (zs_comeIn N (nI j_1)) = (0, nI j_6, (zu (zu N 7 j_1 1) 8 j_1 1)) := by first | (simp [zs_comeIn, hj_1c, hzj_1, h_5, c_8]; done) | (simp_all [zs_comeIn]; done)
      rw [e9]; exact ⟨rfl, rfl, hZ.W⟩
    · skip
      refine zz_throw (cls := "java/lang/IllegalStateException") (is := 184) hx hb hfl hown hts hE0 zx_60 zw_312 zw_10 zt_184 hS (fun _ h => h) hl.1 hml dX2_comeIn_32 dX2_comeIn_35 dX2_comeIn_36 dX2_comeIn_38 dX2_comeIn_41 htab (Nat.le_of_ble_eq_true rfl) (Nat.le_of_ble_eq_true rfl) (Nat.le_of_ble_eq_true rfl) (Nat.le_of_ble_eq_true rfl) hlocks (fun H9 hf9 => ?_) (Nat.le_of_ble_eq_true rfl) (Nat.le_of_ble_eq_true rfl)
      exact Or.inr ⟨rfl, by simp_all [zs_comeIn]⟩

set_option maxHeartbeats 4000000 in
set_option maxRecDepth 100000 in
theorem c_X2_leave (l : Launch) (hfl : l.stackTraces = false) {K : zz_G} {A : Nat → Prop} {ad : Nat → Nat → Nat} {E : Nat → Nat → Int32} {cap : Nat → Nat} {N : Nat → Nat → Nat} {G : Nat → Nat → Int32} {L : Nat → Int64} (hI : zq N) (hk : zk K ad cap N) (x : Int32) : zz_C l yX2_leave cX2_leave 3 (Option.some FieldType.int) ({ frames := 7, cells := 2, slots := 12, locals := 117 } : Room) K A [.ref (ad 0 0), .int x] (fun H => zz_W K A ad (zx_c K ad E cap N G L) H) (fun v9 _ H9 => (zs_leave N x).1 = 0 ∧ v9 = some (.int (zs_leave N x).2.1) ∧ zz_W K A ad (zx_c K ad E cap (zs_leave N x).2.2 G L) H9) (fun E9 _ _ => (E9 = "java/util/NoSuchElementException" ∧ (zs_leave N x).1 = 1) ∨ (E9 = "java/lang/IllegalStateException" ∧ (zs_leave N x).1 = 2)) A := by
  refine zz_body (by decide +kernel) (Nat.le_of_ble_eq_true rfl) ?_
  intro p e s m below meth c ls hx hb hr hml hts hown hlocks hmn htab hE hA hP hl
  have hN := hE.N
  have hK := hE.K
  have hown : s.vm.findClass RX2 = some m.cls := hown
  have hl : lv_has ls 3 [(0, .ref (ad 0 0)), (1, .int x)] := hl
  have hZ : zz_Z K A s ad (zx_c K ad E cap N G L) s.heap := ⟨hE, hA, hP⟩
  have hS : va_S zz_no s.heap s.heap [] := va_S.rf
  obtain ⟨H, hH⟩ : ∃ z, z = s.heap := ⟨_, rfl⟩
  have hS0 : va_S zz_no s.heap H [] := by rw [hH]; exact hS
  rw [← hH] at hZ
  have hE0 := hE
  clear hS
  have hS := hS0
  have hB := hI.B
  have hbk := hI.bk
  have h00 := hI.f
  have h01 := hI.p
  have h02 := hI.b
  have hk0 := hk 0 (by decide)
  have hk1 := hk 1 (by decide)
  have hk2 := hk 2 (by decide)
  have hnk : ∀ f, nI (f + 1) - 1 = nI f := fun f => (zz_nk f).symm
  have hnk0 : nI 0 - 1 = -1 := zz_k0.symm
  show W p l e _ s m _ below meth c s.heap [] 0 0 _ (F0 m 0 ls [])
  rw [← hH]
  refine lv_aload_n hx hb dX2_leave_0 rfl (lv_at hl 0 rfl) ?_
  refine lv_iload_n hx hb dX2_leave_1 rfl (lv_at hl 1 rfl) ?_
  refine zz_afterX (A := zz_no) (pc := 2) rfl (zz_runV (ci := 5) (q0 := (RX2, TX2, 8)) (b := ad 0 0) (As := [.int x]) (rest := []) hx hb hml hown hts (c_X2_existingPerson l hfl (K := K) (A := A) (ad := ad) (E := E) (cap := cap) (N := N) (G := G) (L := L) hI hk x) zw_521 zw_523 zs_17 zw_1 zw_524 zd_X2_existingPerson ⟨Nat.le_of_ble_eq_true rfl, Nat.le_of_ble_eq_true rfl⟩ hZ.E hZ.A (zx_ob hZ.W).1 rfl rfl hZ.W hl.1 (Nat.le_of_ble_eq_true rfl) dX2_leave_2 ⟨Nat.le_of_ble_eq_true rfl, Nat.le_of_ble_eq_true rfl⟩) hS (fun _ h => h.elim) htab hlocks (Nat.le_of_ble_eq_true rfl) (Nat.le_of_ble_eq_true rfl) (fun E9 H9 hx9 hf9 => Or.inl ⟨hx9.1, by unfold zs_leave; rw [if_pos hx9.2]⟩) (fun v_4 H locs hq_2 hF_3 hS => ?_) (fun _ h => h.elim)
  refine W.widen (k := 1) (n := 6) (Nat.le_of_ble_eq_true rfl) (Nat.le_of_ble_eq_true rfl) ?_
  obtain ⟨j_1, hj_1, rfl, rfl⟩ := hq_2
  have hj_1c : (nI j_1).toNatClampNeg = j_1 := nI_clamp (by omega)
  have hj_1b : j_1 < 2 ^ 31 := by omega
  have hzj_1 := zin_nI hj_1 (show N 0 1 < 2 ^ 31 by omega)
  have hsmj_1 := hI.sm j_1
  have hZ := hZ.ro hF_3
  refine W.eq (g2 := F0 m 5 ls [.ref (ad 5 j_1)]) rfl ?_
  refine lv_astore_n (lv' := [(2, .ref (ad 5 j_1)), (0, .ref (ad 0 0)), (1, .int (nI j_1))]) hx hb dX2_leave_5 rfl hl (Nat.le_of_ble_eq_true rfl) rfl (fun ls hl => ?_)
  refine lv_aload_n hx hb dX2_leave_6 rfl (lv_at hl 0 rfl) ?_
  refine zz_getN (ci := 4) (C := RX1) (T := TX1) (N := 7) (v := .int (nI (N 7 j_1))) hx hb hts hN hown hK (zx_pe hZ.W (q := j_1) hj_1).1 rfl zf_X1 5 (by decide) zn_495 (fun _ h9 => h9) rfl dX2_leave_7 ?_
  refine zz_if_ne (tgt := 23) (by first | exact hB _ _ | exact hUa _ | exact hUb _ | exact hUc _ | exact hUd _ | omega) hx hb dX2_leave_10 (by decide) (fun c_5 => ?_) (fun c_5 => ?_)
  · skip
    refine lv_aload_n hx hb dX2_leave_23 rfl (lv_at hl 0 rfl) ?_
    refine zz_con 0 hx hb dX2_leave_24 (by decide) ?_
    have hS : va_S A s.heap H _ := zz_Smono hS (fun _ h => h.elim)
    have haA_9 := (zx_pe hZ.W (q := j_1) hj_1).2
    refine zz_putN (ci := 4) (C := RX1) (T := TX1) (N := 7) (v := .int (nI 0)) (ty1 := .boolean) hx hb hts hN hown hK hS (zx_pe hZ.W (q := j_1) hj_1).1 haA_9 rfl zf_X1 tyX1_ok nmX1 5 (by decide) zn_495 (fun _ h9 => h9) rfl (by decide +kernel) (by rcases (show nI 0 = 0 ∨ nI 0 = 1 by decide) with h | h <;> rw [h] <;> rfl) (by rcases (show nI 0 = 0 ∨ nI 0 = 1 by decide) with h | h <;> rw [h] <;> rfl) (Nat.le_of_ble_eq_true rfl) dX2_leave_25 (fun H locs ha_7 hz_8 ho_6 hS => ?_)
    have hZ : zz_Z K A s ad (zx_c K ad E cap (zu N 7 j_1 0) G L) H := hZ.put haA_9 hz_8 ho_6 (zx_put_in hZ.W hj_1 ha_7 ho_6)
    have hI : zq (zu N 7 j_1 0) := zq_u1 hI (Or.inr (Or.inl rfl)) (by decide)
    refine lv_aload_n hx hb dX2_leave_28 rfl (lv_at hl 1 rfl) ?_
    refine zz_after (pc := 29) rfl (zz_runV (ci := 5) (q0 := (RX2, TX2, 8)) (b := ad 0 0) (As := []) (rest := []) hx hb hml hown hts (c_X2_countPeopleIn l (K := K) (A := A) (ad := ad) (E := E) (cap := cap) (N := (zu N 7 j_1 0)) (G := G) (L := L) hI hk ) zw_691 zw_693 zs_31 zw_1 zw_694 zd_X2_countPeopleIn ⟨Nat.le_of_ble_eq_true rfl, Nat.le_of_ble_eq_true rfl⟩ hZ.E hZ.A (zx_ob hZ.W).1 rfl rfl hZ.W hl.1 (Nat.le_of_ble_eq_true rfl) dX2_leave_29 ⟨Nat.le_of_ble_eq_true rfl, Nat.le_of_ble_eq_true rfl⟩) hS (fun _ h => h.elim) (fun v_12 H locs hq_10 hF_11 hS => ?_)
    refine W.widen (k := 1) (n := 6) (Nat.le_of_ble_eq_true rfl) (Nat.le_of_ble_eq_true rfl) ?_
    obtain rfl := hq_10
    have hZ := hZ.ro hF_11
    refine W.eq (g2 := F0 m 32 ls [.int (nI (zc (fun q => (zu N 7 j_1 0) 7 q ≠ 0) (N 0 1)))]) rfl ?_
    refine zz_iret hx hb hr hlocks hS (Nat.le_of_ble_eq_true rfl) (Nat.le_of_ble_eq_true rfl) dX2_leave_32 ?_
    have e9 : (zs_leave N (nI j_1)) = (0, nI (zc (fun q => (zu N 7 j_1 0) 7 q ≠ 0) (N 0 1)), (zu N 7 j_1 0)) := by first | (simp [zs_leave, hj_1c, hzj_1, c_5]; done) | (simp_all [zs_leave]; done)
    rw [e9]; exact ⟨rfl, rfl, hZ.W⟩
  · skip
    refine zz_throw (cls := "java/lang/IllegalStateException") (is := 189) hx hb hfl hown hts hE0 zx_60 zw_312 zw_10 zt_189 hS (fun _ h => h) hl.1 hml dX2_leave_13 dX2_leave_16 dX2_leave_17 dX2_leave_19 dX2_leave_22 htab (Nat.le_of_ble_eq_true rfl) (Nat.le_of_ble_eq_true rfl) (Nat.le_of_ble_eq_true rfl) (Nat.le_of_ble_eq_true rfl) hlocks (fun H9 hf9 => ?_) (Nat.le_of_ble_eq_true rfl) (Nat.le_of_ble_eq_true rfl)
    exact Or.inr ⟨rfl, by simp_all [zs_leave]⟩

set_option maxHeartbeats 4000000 in
set_option maxRecDepth 100000 in
theorem c_X2_seated (l : Launch) (hfl : l.stackTraces = false) {K : zz_G} {A : Nat → Prop} {ad : Nat → Nat → Nat} {E : Nat → Nat → Int32} {cap : Nat → Nat} {N : Nat → Nat → Nat} {G : Nat → Nat → Int32} {L : Nat → Int64} (hI : zq N) (hk : zk K ad cap N) (x y : Int32) : zz_C l yX2_seated cX2_seated 4 (Option.some FieldType.int) ({ frames := 7, cells := 2, slots := 12, locals := 117 } : Room) K A [.ref (ad 0 0), .int x, .int y] (fun H => zz_W K A ad (zx_c K ad E cap N G L) H) (fun v9 _ H9 => (zs_seated N x y).1 = 0 ∧ v9 = some (.int (zs_seated N x y).2)) (fun E9 _ _ => (E9 = "java/lang/IndexOutOfBoundsException" ∧ (zs_seated N x y).1 = 1) ∨ (E9 = "java/lang/IllegalArgumentException" ∧ (zs_seated N x y).1 = 2)) zz_no := by
  refine zz_body (by decide +kernel) (Nat.le_of_ble_eq_true rfl) ?_
  intro p e s m below meth c ls hx hb hr hml hts hown hlocks hmn htab hE hA hP hl
  have hN := hE.N
  have hK := hE.K
  have hown : s.vm.findClass RX2 = some m.cls := hown
  have hl : lv_has ls 4 [(0, .ref (ad 0 0)), (1, .int x), (2, .int y)] := hl
  have hZ : zz_Z K A s ad (zx_c K ad E cap N G L) s.heap := ⟨hE, hA, hP⟩
  have hS : va_S zz_no s.heap s.heap [] := va_S.rf
  obtain ⟨H, hH⟩ : ∃ z, z = s.heap := ⟨_, rfl⟩
  have hS0 : va_S zz_no s.heap H [] := by rw [hH]; exact hS
  rw [← hH] at hZ
  have hE0 := hE
  clear hS
  have hS := hS0
  have hB := hI.B
  have hbk := hI.bk
  have h00 := hI.f
  have h01 := hI.p
  have h02 := hI.b
  have hk0 := hk 0 (by decide)
  have hk1 := hk 1 (by decide)
  have hk2 := hk 2 (by decide)
  have hnk : ∀ f, nI (f + 1) - 1 = nI f := fun f => (zz_nk f).symm
  have hnk0 : nI 0 - 1 = -1 := zz_k0.symm
  show W p l e _ s m _ below meth c s.heap [] 0 0 _ (F0 m 0 ls [])
  rw [← hH]
  refine lv_aload_n hx hb dX2_seated_0 rfl (lv_at hl 0 rfl) ?_
  refine lv_iload_n hx hb dX2_seated_1 rfl (lv_at hl 2 rfl) ?_
  refine zz_afterX (A := zz_no) (pc := 2) rfl (zz_runV (ci := 5) (q0 := (RX2, TX2, 8)) (b := ad 0 0) (As := [.int y]) (rest := []) hx hb hml hown hts (c_X2_existingFloor l hfl (K := K) (A := A) (ad := ad) (E := E) (cap := cap) (N := N) (G := G) (L := L) hI hk y) zw_450 zw_452 zs_16 zw_1 zw_453 zd_X2_existingFloor ⟨Nat.le_of_ble_eq_true rfl, Nat.le_of_ble_eq_true rfl⟩ hZ.E hZ.A (zx_ob hZ.W).1 rfl rfl hZ.W hl.1 (Nat.le_of_ble_eq_true rfl) dX2_seated_2 ⟨Nat.le_of_ble_eq_true rfl, Nat.le_of_ble_eq_true rfl⟩) hS (fun _ h => h.elim) htab hlocks (Nat.le_of_ble_eq_true rfl) (Nat.le_of_ble_eq_true rfl) (fun E9 H9 hx9 hf9 => Or.inl ⟨hx9.1, by unfold zs_seated; rw [if_pos hx9.2]⟩) (fun v_4 H locs hq_2 hF_3 hS => ?_) (fun _ h => h.elim)
  refine W.widen (k := 1) (n := 6) (Nat.le_of_ble_eq_true rfl) (Nat.le_of_ble_eq_true rfl) ?_
  obtain ⟨j_1, hj_1, rfl, rfl⟩ := hq_2
  have hj_1c : (nI j_1).toNatClampNeg = j_1 := nI_clamp (by omega)
  have hj_1b : j_1 < 2 ^ 31 := by omega
  have hzj_1 := zin_nI hj_1 (show N 0 0 < 2 ^ 31 by omega)
  have hsmj_1 := hI.sm j_1
  have hZ := hZ.ro hF_3
  refine W.eq (g2 := F0 m 5 ls [.ref (ad 3 j_1)]) rfl ?_
  refine lv_astore_n (lv' := [(3, .ref (ad 3 j_1)), (0, .ref (ad 0 0)), (1, .int x), (2, .int (nI j_1))]) hx hb dX2_seated_5 rfl hl (Nat.le_of_ble_eq_true rfl) rfl (fun ls hl => ?_)
  refine lv_iload_n hx hb dX2_seated_6 rfl (lv_at hl 2 rfl) ?_
  refine zz_afterX (A := zz_no) (pc := 7) rfl (zz_runS (As := [.int x]) (rest := []) hx hb hml hown hts (c_X2_checkTeam l hfl (K := K) (A := A) x) zw_474 zw_475 zw_1 zw_476 zd_X2_checkTeam ⟨Nat.le_of_ble_eq_true rfl, Nat.le_of_ble_eq_true rfl⟩ hZ.E hZ.A trivial hl.1 (Nat.le_of_ble_eq_true rfl) dX2_seated_7 ⟨Nat.le_of_ble_eq_true rfl, Nat.le_of_ble_eq_true rfl⟩) hS (fun _ h => h.elim) htab hlocks (Nat.le_of_ble_eq_true rfl) (Nat.le_of_ble_eq_true rfl) (fun E9 H9 hx9 hf9 => Or.inr ⟨hx9.1, by unfold zs_seated; rw [if_neg (fun h => h (by assumption)), if_pos hx9.2]⟩) (fun v_8 H locs hq_6 hF_7 hS => ?_) (fun _ h => h.elim)
  refine W.widen (k := 2) (n := 12) (Nat.le_of_ble_eq_true rfl) (Nat.le_of_ble_eq_true rfl) ?_
  obtain ⟨rfl, hzt_5⟩ := hq_6
  obtain ⟨t_5, ht_5, rfl⟩ := zz_rng2 (a := 0) (b := 3) (by decide) (by decide) hzt_5
  have ht_5c : (nI t_5).toNatClampNeg = t_5 := nI_clamp (by omega)
  have hZ := hZ.ro hF_7
  refine W.eq (g2 := F0 m 10 ls []) rfl ?_
  refine lv_aload_n hx hb dX2_seated_10 rfl (lv_at hl 1 rfl) ?_
  refine lv_iload_n hx hb dX2_seated_11 rfl (lv_at hl 2 rfl) ?_
  refine lv_aload_n hx hb dX2_seated_12 rfl (lv_at hl 0 rfl) ?_
  refine zz_after (pc := 13) rfl (zz_runV (ci := 5) (q0 := (RX2, TX2, 8)) (b := ad 0 0) (As := [.int (nI t_5), .ref (ad 3 j_1)]) (rest := []) hx hb hml hown hts (c_X2_countTeamOn l (K := K) (A := A) (ad := ad) (E := E) (cap := cap) (N := N) (G := G) (L := L) hI hk (by omega) hj_1) zw_662 zw_664 zs_29 zw_1 zw_665 zd_X2_countTeamOn ⟨Nat.le_of_ble_eq_true rfl, Nat.le_of_ble_eq_true rfl⟩ hZ.E hZ.A (zx_ob hZ.W).1 rfl rfl hZ.W hl.1 (Nat.le_of_ble_eq_true rfl) dX2_seated_13 ⟨Nat.le_of_ble_eq_true rfl, Nat.le_of_ble_eq_true rfl⟩) hS (fun _ h => h.elim) (fun v_11 H locs hq_9 hF_10 hS => ?_)
  refine W.widen (k := 2) (n := 12) (Nat.le_of_ble_eq_true rfl) (Nat.le_of_ble_eq_true rfl) ?_
  obtain rfl := hq_9
  have hZ := hZ.ro hF_10
  refine W.eq (g2 := F0 m 16 ls [.int (nI (zsit N j_1 (t_5 + 1)))]) rfl ?_
  refine zz_iret hx hb hr hlocks hS (Nat.le_of_ble_eq_true rfl) (Nat.le_of_ble_eq_true rfl) dX2_seated_16 ?_
  have e9 : (zs_seated N (nI t_5) (nI j_1)) = (0, nI (zsit N j_1 (t_5 + 1))) := by first | (simp [zs_seated, hj_1c, hzj_1, ht_5c, hzt_5]; done) | (simp_all [zs_seated]; done)
  rw [e9]; exact ⟨rfl, rfl⟩

set_option maxHeartbeats 4000000 in
set_option maxRecDepth 100000 in
theorem c_X2_isIn (l : Launch) (hfl : l.stackTraces = false) {K : zz_G} {A : Nat → Prop} {ad : Nat → Nat → Nat} {E : Nat → Nat → Int32} {cap : Nat → Nat} {N : Nat → Nat → Nat} {G : Nat → Nat → Int32} {L : Nat → Int64} (hI : zq N) (hk : zk K ad cap N) (x : Int32) : zz_C l yX2_isIn cX2_isIn 2 (Option.some FieldType.boolean) ({ frames := 7, cells := 1, slots := 6, locals := 117 } : Room) K A [.ref (ad 0 0), .int x] (fun H => zz_W K A ad (zx_c K ad E cap N G L) H) (fun v9 _ _ => zs_isIn N x = 0 ∧ v9 = some (.int (zz_bo (zp_isIn N x)))) (fun E9 _ _ => (E9 = "java/util/NoSuchElementException" ∧ zs_isIn N x = 1)) zz_no := by
  refine zz_body (by decide +kernel) (Nat.le_of_ble_eq_true rfl) ?_
  intro p e s m below meth c ls hx hb hr hml hts hown hlocks hmn htab hE hA hP hl
  have hN := hE.N
  have hK := hE.K
  have hown : s.vm.findClass RX2 = some m.cls := hown
  have hl : lv_has ls 2 [(0, .ref (ad 0 0)), (1, .int x)] := hl
  have hZ : zz_Z K A s ad (zx_c K ad E cap N G L) s.heap := ⟨hE, hA, hP⟩
  have hS : va_S zz_no s.heap s.heap [] := va_S.rf
  obtain ⟨H, hH⟩ : ∃ z, z = s.heap := ⟨_, rfl⟩
  have hS0 : va_S zz_no s.heap H [] := by rw [hH]; exact hS
  rw [← hH] at hZ
  have hE0 := hE
  clear hS
  have hS := hS0
  have hB := hI.B
  have hbk := hI.bk
  have h00 := hI.f
  have h01 := hI.p
  have h02 := hI.b
  have hk0 := hk 0 (by decide)
  have hk1 := hk 1 (by decide)
  have hk2 := hk 2 (by decide)
  show W p l e _ s m _ below meth c s.heap [] 0 0 _ (F0 m 0 ls [])
  rw [← hH]
  refine lv_aload_n hx hb dX2_isIn_0 rfl (lv_at hl 0 rfl) ?_
  refine lv_iload_n hx hb dX2_isIn_1 rfl (lv_at hl 1 rfl) ?_
  refine zz_afterX (A := zz_no) (pc := 2) rfl (zz_runV (ci := 5) (q0 := (RX2, TX2, 8)) (b := ad 0 0) (As := [.int x]) (rest := []) hx hb hml hown hts (c_X2_existingPerson l hfl (K := K) (A := A) (ad := ad) (E := E) (cap := cap) (N := N) (G := G) (L := L) hI hk x) zw_521 zw_523 zs_17 zw_1 zw_524 zd_X2_existingPerson ⟨Nat.le_of_ble_eq_true rfl, Nat.le_of_ble_eq_true rfl⟩ hZ.E hZ.A (zx_ob hZ.W).1 rfl rfl hZ.W hl.1 (Nat.le_of_ble_eq_true rfl) dX2_isIn_2 ⟨Nat.le_of_ble_eq_true rfl, Nat.le_of_ble_eq_true rfl⟩) hS (fun _ h => h.elim) htab hlocks (Nat.le_of_ble_eq_true rfl) (Nat.le_of_ble_eq_true rfl) (fun E9 H9 hx9 hf9 => ⟨hx9.1, by unfold zs_isIn; rw [if_pos hx9.2]⟩) (fun v_4 H locs hq_2 hF_3 hS => ?_) (fun _ h => h.elim)
  refine W.widen (k := 1) (n := 6) (Nat.le_of_ble_eq_true rfl) (Nat.le_of_ble_eq_true rfl) ?_
  obtain ⟨j_1, hj_1, rfl, rfl⟩ := hq_2
  have hj_1c : (nI j_1).toNatClampNeg = j_1 := nI_clamp (by omega)
  have hj_1b : j_1 < 2 ^ 31 := by omega
  have hzj_1 := zin_nI hj_1 (show N 0 1 < 2 ^ 31 by omega)
  have hsmj_1 := hI.sm j_1
  have hZ := hZ.ro hF_3
  refine W.eq (g2 := F0 m 5 ls [.ref (ad 5 j_1)]) rfl ?_
  refine zz_getN (ci := 4) (C := RX1) (T := TX1) (N := 7) (v := .int (nI (N 7 j_1))) hx hb hts hN hown hK (zx_pe hZ.W (q := j_1) hj_1).1 rfl zf_X1 5 (by decide) zn_495 (fun _ h9 => h9) rfl dX2_isIn_5 ?_
  refine zz_zret hx hb hr hlocks hS (Nat.le_of_ble_eq_true rfl) (Nat.le_of_ble_eq_true rfl) dX2_isIn_8 (zz_n01 (show N 7 j_1 ≤ 1 by omega)) ?_
  refine ⟨by simp [zs_isIn, hzj_1], ?_⟩
  exact congrArg (fun z => some (Value.int z)) (zz_bo_n (by omega) ⟨fun h => by have := h.2; rw [hj_1c] at this; exact this, fun h => ⟨hzj_1, by rw [hj_1c]; exact h⟩⟩)

set_option maxHeartbeats 4000000 in
set_option maxRecDepth 100000 in
theorem c_X2_isOpen (l : Launch) (hfl : l.stackTraces = false) {K : zz_G} {A : Nat → Prop} {ad : Nat → Nat → Nat} {E : Nat → Nat → Int32} {cap : Nat → Nat} {N : Nat → Nat → Nat} {G : Nat → Nat → Int32} {L : Nat → Int64} (hI : zq N) (hk : zk K ad cap N) (x : Int32) : zz_C l yX2_isOpen cX2_isOpen 2 (Option.some FieldType.boolean) ({ frames := 7, cells := 1, slots := 6, locals := 117 } : Room) K A [.ref (ad 0 0), .int x] (fun H => zz_W K A ad (zx_c K ad E cap N G L) H) (fun v9 _ _ => zs_isOpen N x = 0 ∧ v9 = some (.int (zz_bo (zp_isOpen N x)))) (fun E9 _ _ => (E9 = "java/lang/IndexOutOfBoundsException" ∧ zs_isOpen N x = 1)) zz_no := by
  refine zz_body (by decide +kernel) (Nat.le_of_ble_eq_true rfl) ?_
  intro p e s m below meth c ls hx hb hr hml hts hown hlocks hmn htab hE hA hP hl
  have hN := hE.N
  have hK := hE.K
  have hown : s.vm.findClass RX2 = some m.cls := hown
  have hl : lv_has ls 2 [(0, .ref (ad 0 0)), (1, .int x)] := hl
  have hZ : zz_Z K A s ad (zx_c K ad E cap N G L) s.heap := ⟨hE, hA, hP⟩
  have hS : va_S zz_no s.heap s.heap [] := va_S.rf
  obtain ⟨H, hH⟩ : ∃ z, z = s.heap := ⟨_, rfl⟩
  have hS0 : va_S zz_no s.heap H [] := by rw [hH]; exact hS
  rw [← hH] at hZ
  have hE0 := hE
  clear hS
  have hS := hS0
  have hB := hI.B
  have hbk := hI.bk
  have h00 := hI.f
  have h01 := hI.p
  have h02 := hI.b
  have hk0 := hk 0 (by decide)
  have hk1 := hk 1 (by decide)
  have hk2 := hk 2 (by decide)
  show W p l e _ s m _ below meth c s.heap [] 0 0 _ (F0 m 0 ls [])
  rw [← hH]
  refine lv_aload_n hx hb dX2_isOpen_0 rfl (lv_at hl 0 rfl) ?_
  refine lv_iload_n hx hb dX2_isOpen_1 rfl (lv_at hl 1 rfl) ?_
  refine zz_afterX (A := zz_no) (pc := 2) rfl (zz_runV (ci := 5) (q0 := (RX2, TX2, 8)) (b := ad 0 0) (As := [.int x]) (rest := []) hx hb hml hown hts (c_X2_existingFloor l hfl (K := K) (A := A) (ad := ad) (E := E) (cap := cap) (N := N) (G := G) (L := L) hI hk x) zw_450 zw_452 zs_16 zw_1 zw_453 zd_X2_existingFloor ⟨Nat.le_of_ble_eq_true rfl, Nat.le_of_ble_eq_true rfl⟩ hZ.E hZ.A (zx_ob hZ.W).1 rfl rfl hZ.W hl.1 (Nat.le_of_ble_eq_true rfl) dX2_isOpen_2 ⟨Nat.le_of_ble_eq_true rfl, Nat.le_of_ble_eq_true rfl⟩) hS (fun _ h => h.elim) htab hlocks (Nat.le_of_ble_eq_true rfl) (Nat.le_of_ble_eq_true rfl) (fun E9 H9 hx9 hf9 => ⟨hx9.1, by unfold zs_isOpen; rw [if_pos hx9.2]⟩) (fun v_4 H locs hq_2 hF_3 hS => ?_) (fun _ h => h.elim)
  refine W.widen (k := 1) (n := 6) (Nat.le_of_ble_eq_true rfl) (Nat.le_of_ble_eq_true rfl) ?_
  obtain ⟨j_1, hj_1, rfl, rfl⟩ := hq_2
  have hj_1c : (nI j_1).toNatClampNeg = j_1 := nI_clamp (by omega)
  have hj_1b : j_1 < 2 ^ 31 := by omega
  have hzj_1 := zin_nI hj_1 (show N 0 0 < 2 ^ 31 by omega)
  have hsmj_1 := hI.sm j_1
  have hZ := hZ.ro hF_3
  refine W.eq (g2 := F0 m 5 ls [.ref (ad 3 j_1)]) rfl ?_
  refine zz_getN (ci := 3) (C := RX0) (T := TX0) (N := 7) (v := .int (nI (N 3 j_1))) hx hb hts hN hown hK (zx_fl hZ.W (f := j_1) hj_1).1 rfl zf_X0 3 (by decide) zn_340 (fun _ h9 => h9) rfl dX2_isOpen_5 ?_
  refine zz_zret hx hb hr hlocks hS (Nat.le_of_ble_eq_true rfl) (Nat.le_of_ble_eq_true rfl) dX2_isOpen_8 (zz_n01 (show N 3 j_1 ≤ 1 by omega)) ?_
  refine ⟨by simp [zs_isOpen, hzj_1], ?_⟩
  exact congrArg (fun z => some (Value.int z)) (zz_bo_n (by omega) ⟨fun h => by have := h.2; rw [hj_1c] at this; exact this, fun h => ⟨hzj_1, by rw [hj_1c]; exact h⟩⟩)

set_option maxHeartbeats 4000000 in
set_option maxRecDepth 100000 in
theorem c_X2_day (l : Launch) {K : zz_G} {A : Nat → Prop} {ad : Nat → Nat → Nat} {E : Nat → Nat → Int32} {cap : Nat → Nat} {N : Nat → Nat → Nat} {G : Nat → Nat → Int32} {L : Nat → Int64} (hI : zq N) (hk : zk K ad cap N)  : zz_C l yX2_day cX2_day 1 (Option.some FieldType.int) ({ frames := 0, cells := 0, slots := 0, locals := 0 } : Room) K A [.ref (ad 0 0)] (fun H => zz_W K A ad (zx_c K ad E cap N G L) H) (fun v9 _ _ => v9 = some (.int (nI (N 12 0)))) zz_nx zz_no := by
  refine zz_body (by decide +kernel) (Nat.le_of_ble_eq_true rfl) ?_
  intro p e s m below meth c ls hx hb hr hml hts hown hlocks hmn htab hE hA hP hl
  have hN := hE.N
  have hK := hE.K
  have hown : s.vm.findClass RX2 = some m.cls := hown
  have hl : lv_has ls 1 [(0, .ref (ad 0 0))] := hl
  have hZ : zz_Z K A s ad (zx_c K ad E cap N G L) s.heap := ⟨hE, hA, hP⟩
  have hS : va_S zz_no s.heap s.heap [] := va_S.rf
  obtain ⟨H, hH⟩ : ∃ z, z = s.heap := ⟨_, rfl⟩
  have hS0 : va_S zz_no s.heap H [] := by rw [hH]; exact hS
  rw [← hH] at hZ
  have hE0 := hE
  clear hS
  have hS := hS0
  have hB := hI.B
  have hbk := hI.bk
  have h00 := hI.f
  have h01 := hI.p
  have h02 := hI.b
  have hk0 := hk 0 (by decide)
  have hk1 := hk 1 (by decide)
  have hk2 := hk 2 (by decide)
  show W p l e _ s m _ below meth c s.heap [] 0 0 _ (F0 m 0 ls [])
  rw [← hH]
  refine lv_aload_n hx hb dX2_day_0 rfl (lv_at hl 0 rfl) ?_
  refine zz_get (ci := 5) (C := RX2) (T := TX2) (N := 8) (v := .int (nI (N 12 0))) hx hb hts hown hK (zx_ob hZ.W).1 rfl zf_X2 3 (by decide) zw_62 (fun _ h9 => h9) rfl dX2_day_1 ?_
  refine zz_iret hx hb hr hlocks hS (Nat.le_of_ble_eq_true rfl) (Nat.le_of_ble_eq_true rfl) dX2_day_4 ?_
  first | rfl | (simp []; done) | (simp_all; done) | (split <;> first | rfl | omega | (simp_all; done); done)

set_option maxHeartbeats 4000000 in
set_option maxRecDepth 100000 in
theorem c_X2_noShows (l : Launch) {K : zz_G} {A : Nat → Prop} {ad : Nat → Nat → Nat} {E : Nat → Nat → Int32} {cap : Nat → Nat} {N : Nat → Nat → Nat} {G : Nat → Nat → Int32} {L : Nat → Int64} (hI : zq N) (hk : zk K ad cap N)  : zz_C l yX2_noShows cX2_noShows 1 (Option.some FieldType.int) ({ frames := 0, cells := 0, slots := 0, locals := 0 } : Room) K A [.ref (ad 0 0)] (fun H => zz_W K A ad (zx_c K ad E cap N G L) H) (fun v9 _ _ => v9 = some (.int (nI (N 12 1)))) zz_nx zz_no := by
  refine zz_body (by decide +kernel) (Nat.le_of_ble_eq_true rfl) ?_
  intro p e s m below meth c ls hx hb hr hml hts hown hlocks hmn htab hE hA hP hl
  have hN := hE.N
  have hK := hE.K
  have hown : s.vm.findClass RX2 = some m.cls := hown
  have hl : lv_has ls 1 [(0, .ref (ad 0 0))] := hl
  have hZ : zz_Z K A s ad (zx_c K ad E cap N G L) s.heap := ⟨hE, hA, hP⟩
  have hS : va_S zz_no s.heap s.heap [] := va_S.rf
  obtain ⟨H, hH⟩ : ∃ z, z = s.heap := ⟨_, rfl⟩
  have hS0 : va_S zz_no s.heap H [] := by rw [hH]; exact hS
  rw [← hH] at hZ
  have hE0 := hE
  clear hS
  have hS := hS0
  have hB := hI.B
  have hbk := hI.bk
  have h00 := hI.f
  have h01 := hI.p
  have h02 := hI.b
  have hk0 := hk 0 (by decide)
  have hk1 := hk 1 (by decide)
  have hk2 := hk 2 (by decide)
  show W p l e _ s m _ below meth c s.heap [] 0 0 _ (F0 m 0 ls [])
  rw [← hH]
  refine lv_aload_n hx hb dX2_noShows_0 rfl (lv_at hl 0 rfl) ?_
  refine zz_get (ci := 5) (C := RX2) (T := TX2) (N := 8) (v := .int (nI (N 12 1))) hx hb hts hown hK (zx_ob hZ.W).1 rfl zf_X2 4 (by decide) zw_63 (fun _ h9 => h9) rfl dX2_noShows_1 ?_
  refine zz_iret hx hb hr hlocks hS (Nat.le_of_ble_eq_true rfl) (Nat.le_of_ble_eq_true rfl) dX2_noShows_4 ?_
  first | rfl | (simp []; done) | (simp_all; done) | (split <;> first | rfl | omega | (simp_all; done); done)

set_option maxHeartbeats 4000000 in
set_option maxRecDepth 100000 in
theorem c_X2_bookings (l : Launch) {K : zz_G} {A : Nat → Prop} {ad : Nat → Nat → Nat} {E : Nat → Nat → Int32} {cap : Nat → Nat} {N : Nat → Nat → Nat} {G : Nat → Nat → Int32} {L : Nat → Int64} (hI : zq N) (hk : zk K ad cap N)  : zz_C l yX2_bookings cX2_bookings 1 (Option.some FieldType.int) ({ frames := 1, cells := 0, slots := 0, locals := 20 } : Room) K A [.ref (ad 0 0)] (fun H => zz_W K A ad (zx_c K ad E cap N G L) H) (fun v9 _ _ => v9 = some (.int (nI (N 0 2)))) zz_nx zz_no := by
  refine zz_body (by decide +kernel) (Nat.le_of_ble_eq_true rfl) ?_
  intro p e s m below meth c ls hx hb hr hml hts hown hlocks hmn htab hE hA hP hl
  have hN := hE.N
  have hK := hE.K
  have hown : s.vm.findClass RX2 = some m.cls := hown
  have hl : lv_has ls 1 [(0, .ref (ad 0 0))] := hl
  have hZ : zz_Z K A s ad (zx_c K ad E cap N G L) s.heap := ⟨hE, hA, hP⟩
  have hS : va_S zz_no s.heap s.heap [] := va_S.rf
  obtain ⟨H, hH⟩ : ∃ z, z = s.heap := ⟨_, rfl⟩
  have hS0 : va_S zz_no s.heap H [] := by rw [hH]; exact hS
  rw [← hH] at hZ
  have hE0 := hE
  clear hS
  have hS := hS0
  have hB := hI.B
  have hbk := hI.bk
  have h00 := hI.f
  have h01 := hI.p
  have h02 := hI.b
  have hk0 := hk 0 (by decide)
  have hk1 := hk 1 (by decide)
  have hk2 := hk 2 (by decide)
  show W p l e _ s m _ below meth c s.heap [] 0 0 _ (F0 m 0 ls [])
  rw [← hH]
  refine lv_aload_n hx hb dX2_bookings_0 rfl (lv_at hl 0 rfl) ?_
  refine zz_get (ci := 5) (C := RX2) (T := TX2) (N := 8) (v := .ref (ad 1 2)) hx hb hts hown hK (zx_ob hZ.W).1 rfl zf_X2 2 (by decide) zw_61 (fun _ h9 => h9) rfl dX2_bookings_1 ?_
  refine zz_after (pc := 4) rfl (zz_runV (ci := 2) (q0 := (RJx4a65c, TJx4a65c, 3)) (b := ad 1 2) (As := []) (rest := []) hx hb hml hown hts (c_Jx4a65c_size_8abf5 l (K := K) (A := A) (ad := ad) (E := E) (cap := cap) (N := N) (G := G) (L := L) hk (by decide)) zw_88 zw_89 zw_90 zw_4 zw_91 zd_Jx4a65c_size_8abf5 ⟨Nat.le_of_ble_eq_true rfl, Nat.le_of_ble_eq_true rfl⟩ hZ.E hZ.A (zx_li hZ.W (t := 2) (by decide)).1 rfl rfl hZ.W hl.1 (Nat.le_of_ble_eq_true rfl) dX2_bookings_4 ⟨Nat.le_of_ble_eq_true rfl, Nat.le_of_ble_eq_true rfl⟩) hS (fun _ h => h.elim) (fun v_3 H locs hq_1 hF_2 hS => ?_)
  refine W.widen (k := 0) (n := 0) (Nat.le_of_ble_eq_true rfl) (Nat.le_of_ble_eq_true rfl) ?_
  obtain rfl := hq_1
  have hZ := hZ.ro hF_2
  refine W.eq (g2 := F0 m 7 ls [.int (nI (N 0 2))]) rfl ?_
  refine zz_iret hx hb hr hlocks hS (Nat.le_of_ble_eq_true rfl) (Nat.le_of_ble_eq_true rfl) dX2_bookings_7 ?_
  first | rfl | (simp []; done) | (simp_all; done) | (split <;> first | rfl | omega | (simp_all; done); done)

set_option maxHeartbeats 4000000 in
set_option maxRecDepth 100000 in
theorem c_X2_energy (l : Launch) {K : zz_G} {A : Nat → Prop} {ad : Nat → Nat → Nat} {E : Nat → Nat → Int32} {cap : Nat → Nat} {N : Nat → Nat → Nat} {G : Nat → Nat → Int32} {L : Nat → Int64} (hI : zq N) (hk : zk K ad cap N)  : zz_C l yX2_energy cX2_energy 1 (Option.some FieldType.long) ({ frames := 0, cells := 0, slots := 0, locals := 0 } : Room) K A [.ref (ad 0 0)] (fun H => zz_W K A ad (zx_c K ad E cap N G L) H) (fun v9 _ _ => v9 = some (.long (L 0))) zz_nx zz_no := by
  refine zz_body (by decide +kernel) (Nat.le_of_ble_eq_true rfl) ?_
  intro p e s m below meth c ls hx hb hr hml hts hown hlocks hmn htab hE hA hP hl
  have hN := hE.N
  have hK := hE.K
  have hown : s.vm.findClass RX2 = some m.cls := hown
  have hl : lv_has ls 1 [(0, .ref (ad 0 0))] := hl
  have hZ : zz_Z K A s ad (zx_c K ad E cap N G L) s.heap := ⟨hE, hA, hP⟩
  have hS : va_S zz_no s.heap s.heap [] := va_S.rf
  obtain ⟨H, hH⟩ : ∃ z, z = s.heap := ⟨_, rfl⟩
  have hS0 : va_S zz_no s.heap H [] := by rw [hH]; exact hS
  rw [← hH] at hZ
  have hE0 := hE
  clear hS
  have hS := hS0
  have hB := hI.B
  have hbk := hI.bk
  have h00 := hI.f
  have h01 := hI.p
  have h02 := hI.b
  have hk0 := hk 0 (by decide)
  have hk1 := hk 1 (by decide)
  have hk2 := hk 2 (by decide)
  show W p l e _ s m _ below meth c s.heap [] 0 0 _ (F0 m 0 ls [])
  rw [← hH]
  refine lv_aload_n hx hb dX2_energy_0 rfl (lv_at hl 0 rfl) ?_
  refine zz_get (ci := 5) (C := RX2) (T := TX2) (N := 8) (v := .long (L 0)) hx hb hts hown hK (zx_ob hZ.W).1 rfl zf_X2 5 (by decide) zw_64 (fun _ h9 => h9) rfl dX2_energy_1 ?_
  refine zz_lret hx hb hr hlocks hS (Nat.le_of_ble_eq_true rfl) (Nat.le_of_ble_eq_true rfl) dX2_energy_4 ?_
  first | rfl | (simp []; done) | (simp_all; done) | (split <;> first | rfl | omega | (simp_all; done); done)

set_option maxHeartbeats 4000000 in
set_option maxRecDepth 100000 in
theorem c_X2_discomfort (l : Launch) {K : zz_G} {A : Nat → Prop} {ad : Nat → Nat → Nat} {E : Nat → Nat → Int32} {cap : Nat → Nat} {N : Nat → Nat → Nat} {G : Nat → Nat → Int32} {L : Nat → Int64} (hI : zq N) (hk : zk K ad cap N)  : zz_C l yX2_discomfort cX2_discomfort 1 (Option.some FieldType.long) ({ frames := 0, cells := 0, slots := 0, locals := 0 } : Room) K A [.ref (ad 0 0)] (fun H => zz_W K A ad (zx_c K ad E cap N G L) H) (fun v9 _ _ => v9 = some (.long (L 1))) zz_nx zz_no := by
  refine zz_body (by decide +kernel) (Nat.le_of_ble_eq_true rfl) ?_
  intro p e s m below meth c ls hx hb hr hml hts hown hlocks hmn htab hE hA hP hl
  have hN := hE.N
  have hK := hE.K
  have hown : s.vm.findClass RX2 = some m.cls := hown
  have hl : lv_has ls 1 [(0, .ref (ad 0 0))] := hl
  have hZ : zz_Z K A s ad (zx_c K ad E cap N G L) s.heap := ⟨hE, hA, hP⟩
  have hS : va_S zz_no s.heap s.heap [] := va_S.rf
  obtain ⟨H, hH⟩ : ∃ z, z = s.heap := ⟨_, rfl⟩
  have hS0 : va_S zz_no s.heap H [] := by rw [hH]; exact hS
  rw [← hH] at hZ
  have hE0 := hE
  clear hS
  have hS := hS0
  have hB := hI.B
  have hbk := hI.bk
  have h00 := hI.f
  have h01 := hI.p
  have h02 := hI.b
  have hk0 := hk 0 (by decide)
  have hk1 := hk 1 (by decide)
  have hk2 := hk 2 (by decide)
  show W p l e _ s m _ below meth c s.heap [] 0 0 _ (F0 m 0 ls [])
  rw [← hH]
  refine lv_aload_n hx hb dX2_discomfort_0 rfl (lv_at hl 0 rfl) ?_
  refine zz_get (ci := 5) (C := RX2) (T := TX2) (N := 8) (v := .long (L 1)) hx hb hts hown hK (zx_ob hZ.W).1 rfl zf_X2 6 (by decide) zw_65 (fun _ h9 => h9) rfl dX2_discomfort_1 ?_
  refine zz_lret hx hb hr hlocks hS (Nat.le_of_ble_eq_true rfl) (Nat.le_of_ble_eq_true rfl) dX2_discomfort_4 ?_
  first | rfl | (simp []; done) | (simp_all; done) | (split <;> first | rfl | omega | (simp_all; done); done)

set_option maxHeartbeats 4000000 in
set_option maxRecDepth 100000 in
theorem c_X2_cleaning (l : Launch) {K : zz_G} {A : Nat → Prop} {ad : Nat → Nat → Nat} {E : Nat → Nat → Int32} {cap : Nat → Nat} {N : Nat → Nat → Nat} {G : Nat → Nat → Int32} {L : Nat → Int64} (hI : zq N) (hk : zk K ad cap N)  : zz_C l yX2_cleaning cX2_cleaning 1 (Option.some FieldType.long) ({ frames := 0, cells := 0, slots := 0, locals := 0 } : Room) K A [.ref (ad 0 0)] (fun H => zz_W K A ad (zx_c K ad E cap N G L) H) (fun v9 _ _ => v9 = some (.long (L 2))) zz_nx zz_no := by
  refine zz_body (by decide +kernel) (Nat.le_of_ble_eq_true rfl) ?_
  intro p e s m below meth c ls hx hb hr hml hts hown hlocks hmn htab hE hA hP hl
  have hN := hE.N
  have hK := hE.K
  have hown : s.vm.findClass RX2 = some m.cls := hown
  have hl : lv_has ls 1 [(0, .ref (ad 0 0))] := hl
  have hZ : zz_Z K A s ad (zx_c K ad E cap N G L) s.heap := ⟨hE, hA, hP⟩
  have hS : va_S zz_no s.heap s.heap [] := va_S.rf
  obtain ⟨H, hH⟩ : ∃ z, z = s.heap := ⟨_, rfl⟩
  have hS0 : va_S zz_no s.heap H [] := by rw [hH]; exact hS
  rw [← hH] at hZ
  have hE0 := hE
  clear hS
  have hS := hS0
  have hB := hI.B
  have hbk := hI.bk
  have h00 := hI.f
  have h01 := hI.p
  have h02 := hI.b
  have hk0 := hk 0 (by decide)
  have hk1 := hk 1 (by decide)
  have hk2 := hk 2 (by decide)
  show W p l e _ s m _ below meth c s.heap [] 0 0 _ (F0 m 0 ls [])
  rw [← hH]
  refine lv_aload_n hx hb dX2_cleaning_0 rfl (lv_at hl 0 rfl) ?_
  refine zz_get (ci := 5) (C := RX2) (T := TX2) (N := 8) (v := .long (L 2)) hx hb hts hown hK (zx_ob hZ.W).1 rfl zf_X2 7 (by decide) zw_66 (fun _ h9 => h9) rfl dX2_cleaning_1 ?_
  refine zz_lret hx hb hr hlocks hS (Nat.le_of_ble_eq_true rfl) (Nat.le_of_ble_eq_true rfl) dX2_cleaning_4 ?_
  first | rfl | (simp []; done) | (simp_all; done) | (split <;> first | rfl | omega | (simp_all; done); done)

set_option maxHeartbeats 4000000 in
set_option maxRecDepth 100000 in
theorem c_X2_meanStanding (l : Launch) (hfl : l.stackTraces = false) {K : zz_G} {A : Nat → Prop} {ad : Nat → Nat → Nat} {E : Nat → Nat → Int32} {cap : Nat → Nat} {N : Nat → Nat → Nat} {G : Nat → Nat → Int32} {L : Nat → Int64} (hI : zq N) (hk : zk K ad cap N)  : zz_C l yX2_meanStanding cX2_meanStanding 3 (Option.some FieldType.double) ({ frames := 6, cells := 1, slots := 6, locals := 96 } : Room) K A [.ref (ad 0 0)] (fun H => zz_W K A ad (zx_c K ad E cap N G L) H) (fun v9 _ _ => N 0 1 ≠ 0 ∧ v9 = some (.double (zmean N))) (fun E9 _ _ => (E9 = "java/lang/ArithmeticException" ∧ N 0 1 = 0)) zz_no := by
  refine zz_body (by decide +kernel) (Nat.le_of_ble_eq_true rfl) ?_
  intro p e s m below meth c ls hx hb hr hml hts hown hlocks hmn htab hE hA hP hl
  have hN := hE.N
  have hK := hE.K
  have hown : s.vm.findClass RX2 = some m.cls := hown
  have hl : lv_has ls 3 [(0, .ref (ad 0 0))] := hl
  have hZ : zz_Z K A s ad (zx_c K ad E cap N G L) s.heap := ⟨hE, hA, hP⟩
  have hS : va_S zz_no s.heap s.heap [] := va_S.rf
  obtain ⟨H, hH⟩ : ∃ z, z = s.heap := ⟨_, rfl⟩
  have hS0 : va_S zz_no s.heap H [] := by rw [hH]; exact hS
  rw [← hH] at hZ
  have hE0 := hE
  clear hS
  have hS := hS0
  have hB := hI.B
  have hbk := hI.bk
  have h00 := hI.f
  have h01 := hI.p
  have h02 := hI.b
  have hk0 := hk 0 (by decide)
  have hk1 := hk 1 (by decide)
  have hk2 := hk 2 (by decide)
  have hsm := zsm_b hI
  show W p l e _ s m _ below meth c s.heap [] 0 0 _ (F0 m 0 ls [])
  rw [← hH]
  refine lv_aload_n hx hb dX2_meanStanding_0 rfl (lv_at hl 0 rfl) ?_
  refine zz_get (ci := 5) (C := RX2) (T := TX2) (N := 8) (v := .ref (ad 1 1)) hx hb hts hown hK (zx_ob hZ.W).1 rfl zf_X2 1 (by decide) zw_60 (fun _ h9 => h9) rfl dX2_meanStanding_1 ?_
  refine zz_after (pc := 4) rfl (zz_runV (ci := 2) (q0 := (RJx4a65c, TJx4a65c, 3)) (b := ad 1 1) (As := []) (rest := []) hx hb hml hown hts (c_Jx4a65c_isEmpty_aae02 l (K := K) (A := A) (ad := ad) (E := E) (cap := cap) (N := N) (G := G) (L := L) hk (by decide)) zw_787 zw_788 zw_789 zw_4 zw_790 zd_Jx4a65c_isEmpty_aae02 ⟨Nat.le_of_ble_eq_true rfl, Nat.le_of_ble_eq_true rfl⟩ hZ.E hZ.A (zx_li hZ.W (t := 1) (by decide)).1 rfl rfl hZ.W hl.1 (Nat.le_of_ble_eq_true rfl) dX2_meanStanding_4 ⟨Nat.le_of_ble_eq_true rfl, Nat.le_of_ble_eq_true rfl⟩) hS (fun _ h => h.elim) (fun v_3 H locs hq_1 hF_2 hS => ?_)
  refine W.widen (k := 0) (n := 0) (Nat.le_of_ble_eq_true rfl) (Nat.le_of_ble_eq_true rfl) ?_
  obtain rfl := hq_1
  have hZ := hZ.ro hF_2
  refine W.eq (g2 := F0 m 7 ls [.int (zz_bo (N 0 1 = 0))]) rfl ?_
  refine zz_bi_eq (tgt := 20) hx hb dX2_meanStanding_7 (by decide) (fun c_4 => ?_) (fun c_4 => ?_)
  · skip
    refine zz_con 0 hx hb dX2_meanStanding_20 (by decide) ?_
    refine lv_istore_n (lv' := [(1, .int (nI 0)), (0, .ref (ad 0 0))]) hx hb dX2_meanStanding_21 rfl hl (Nat.le_of_ble_eq_true rfl) rfl (fun ls hl => ?_)
    refine zz_con 0 hx hb dX2_meanStanding_22 (by decide) ?_
    refine lv_istore_n (lv' := [(2, .int (nI 0)), (1, .int (nI 0)), (0, .ref (ad 0 0))]) hx hb dX2_meanStanding_23 rfl hl (Nat.le_of_ble_eq_true rfl) rfl (fun ls hl => ?_)
    have hL_6 : ∀ (k i : Nat), i ≤ N 0 1 → N 0 1 < i + k → ∀ (H : Heap) (locs : List Loc) (ls : Array Slot), zz_Z K A s ad (zx_c K ad E cap N G L) H → va_S zz_no s.heap H locs → lv_has ls 3 [(2, .int (nI i)), (1, .int (nI (zsum (fun q => N 5 q) i))), (0, .ref (ad 0 0))] → W p l e ({ frames := 6, cells := 1, slots := 6, locals := 96 } : Room) s m ([.ref (ad 0 0)] : List Value).toArray below meth c H locs 0 0 (vx_MQ below (zz_Qc (fun v9 _ _ => N 0 1 ≠ 0 ∧ v9 = some (.double (zmean N))) zz_no) (zz_XC (fun E9 _ _ => (E9 = "java/lang/ArithmeticException" ∧ N 0 1 = 0))) ([.ref (ad 0 0)] : List Value).toArray s ({ frames := 6, cells := 1, slots := 6, locals := 96 } : Room).cells ({ frames := 6, cells := 1, slots := 6, locals := 96 } : Room).slots zz_no) (F0 m 24 ls []) := by
      intro k
      induction k with
      | zero => intro i hi hik; omega
      | succ k ih_i =>
        intro i hii hiki H locs ls hZ hS hl
        refine lv_iload_n hx hb dX2_meanStanding_24 rfl (lv_at hl 0 rfl) ?_
        refine lv_aload_n hx hb dX2_meanStanding_25 rfl (lv_at hl 2 rfl) ?_
        refine zz_get (ci := 5) (C := RX2) (T := TX2) (N := 8) (v := .ref (ad 1 1)) hx hb hts hown hK (zx_ob hZ.W).1 rfl zf_X2 1 (by decide) zw_60 (fun _ h9 => h9) rfl dX2_meanStanding_26 ?_
        refine zz_after (pc := 29) rfl (zz_runV (ci := 2) (q0 := (RJx4a65c, TJx4a65c, 3)) (b := ad 1 1) (As := []) (rest := [.int (nI i)]) hx hb hml hown hts (c_Jx4a65c_size_8abf5 l (K := K) (A := A) (ad := ad) (E := E) (cap := cap) (N := N) (G := G) (L := L) hk (by decide)) zw_88 zw_89 zw_90 zw_4 zw_91 zd_Jx4a65c_size_8abf5 ⟨Nat.le_of_ble_eq_true rfl, Nat.le_of_ble_eq_true rfl⟩ hZ.E hZ.A (zx_li hZ.W (t := 1) (by decide)).1 rfl rfl hZ.W hl.1 (Nat.le_of_ble_eq_true rfl) dX2_meanStanding_29 ⟨Nat.le_of_ble_eq_true rfl, Nat.le_of_ble_eq_true rfl⟩) hS (fun _ h => h.elim) (fun v_9 H locs hq_7 hF_8 hS => ?_)
        refine W.widen (k := 0) (n := 0) (Nat.le_of_ble_eq_true rfl) (Nat.le_of_ble_eq_true rfl) ?_
        obtain rfl := hq_7
        have hZ := hZ.ro hF_8
        refine W.eq (g2 := F0 m 32 ls [.int (nI (N 0 1)), .int (nI i)]) rfl ?_
        refine zz_ic_ge (tgt := 58) (by first | exact hB _ _ | exact hUa _ | exact hUb _ | exact hUc _ | exact hUd _ | omega) (by first | exact hB _ _ | exact hUa _ | exact hUb _ | exact hUc _ | exact hUd _ | omega) hx hb dX2_meanStanding_32 (by decide) (fun c_10 => ?_) (fun c_10 => ?_)
        · skip
          obtain rfl : i = N 0 1 := by omega
          refine lv_iload_n hx hb dX2_meanStanding_58 rfl (lv_at hl 1 rfl) ?_
          refine lv_i2d hx hb dX2_meanStanding_59 ?_
          refine lv_aload_n hx hb dX2_meanStanding_60 rfl (lv_at hl 2 rfl) ?_
          refine zz_get (ci := 5) (C := RX2) (T := TX2) (N := 8) (v := .ref (ad 1 1)) hx hb hts hown hK (zx_ob hZ.W).1 rfl zf_X2 1 (by decide) zw_60 (fun _ h9 => h9) rfl dX2_meanStanding_61 ?_
          refine zz_after (pc := 64) rfl (zz_runV (ci := 2) (q0 := (RJx4a65c, TJx4a65c, 3)) (b := ad 1 1) (As := []) (rest := [.double (FP.i2d (nI (zsum (fun q => N 5 q) (N 0 1))))]) hx hb hml hown hts (c_Jx4a65c_size_8abf5 l (K := K) (A := A) (ad := ad) (E := E) (cap := cap) (N := N) (G := G) (L := L) hk (by decide)) zw_88 zw_89 zw_90 zw_4 zw_91 zd_Jx4a65c_size_8abf5 ⟨Nat.le_of_ble_eq_true rfl, Nat.le_of_ble_eq_true rfl⟩ hZ.E hZ.A (zx_li hZ.W (t := 1) (by decide)).1 rfl rfl hZ.W hl.1 (Nat.le_of_ble_eq_true rfl) dX2_meanStanding_64 ⟨Nat.le_of_ble_eq_true rfl, Nat.le_of_ble_eq_true rfl⟩) hS (fun _ h => h.elim) (fun v_13 H locs hq_11 hF_12 hS => ?_)
          refine W.widen (k := 0) (n := 0) (Nat.le_of_ble_eq_true rfl) (Nat.le_of_ble_eq_true rfl) ?_
          obtain rfl := hq_11
          have hZ := hZ.ro hF_12
          refine W.eq (g2 := F0 m 67 ls [.int (nI (N 0 1)), .double (FP.i2d (nI (zsum (fun q => N 5 q) (N 0 1))))]) rfl ?_
          refine lv_i2d hx hb dX2_meanStanding_67 ?_
          refine lv_ddiv hx hb dX2_meanStanding_68 (zmean_n hI (by assumption)) ?_
          refine zz_dret hx hb hr hlocks hS (Nat.le_of_ble_eq_true rfl) (Nat.le_of_ble_eq_true rfl) dX2_meanStanding_69 ?_
          exact ⟨by assumption, rfl⟩
        · skip
          refine lv_iload_n hx hb dX2_meanStanding_35 rfl (lv_at hl 1 rfl) ?_
          refine lv_aload_n hx hb dX2_meanStanding_36 rfl (lv_at hl 2 rfl) ?_
          refine zz_get (ci := 5) (C := RX2) (T := TX2) (N := 8) (v := .ref (ad 1 1)) hx hb hts hown hK (zx_ob hZ.W).1 rfl zf_X2 1 (by decide) zw_60 (fun _ h9 => h9) rfl dX2_meanStanding_37 ?_
          refine lv_iload_n hx hb dX2_meanStanding_40 rfl (lv_at hl 0 rfl) ?_
          have hj_14 : i < N 0 1 := by omega
          refine zz_after (pc := 41) rfl (zz_runV (ci := 2) (q0 := (RJx4a65c, TJx4a65c, 3)) (b := ad 1 1) (As := [.int (nI i)]) (rest := [.int (nI (zsum (fun q => N 5 q) i))]) hx hb hml hown hts (c_Jx4a65c_get_915e3 l (K := K) (A := A) (ad := ad) (E := E) (cap := cap) (N := N) (G := G) (L := L) hk (by decide) (j := i) (r := (ad 5 i)) hj_14 (zx_g1 hj_14)) zw_101 zw_102 zw_103 zw_4 zw_104 zd_Jx4a65c_get_915e3 ⟨Nat.le_of_ble_eq_true rfl, Nat.le_of_ble_eq_true rfl⟩ hZ.E hZ.A (zx_li hZ.W (t := 1) (by decide)).1 rfl rfl hZ.W hl.1 (Nat.le_of_ble_eq_true rfl) dX2_meanStanding_41 ⟨Nat.le_of_ble_eq_true rfl, Nat.le_of_ble_eq_true rfl⟩) hS (fun _ h => h.elim) (fun v_17 H locs hq_15 hF_16 hS => ?_)
          refine W.widen (k := 0) (n := 0) (Nat.le_of_ble_eq_true rfl) (Nat.le_of_ble_eq_true rfl) ?_
          obtain rfl := hq_15
          have hZ := hZ.ro hF_16
          refine W.eq (g2 := F0 m 44 ls [.ref (ad 5 i), .int (nI (zsum (fun q => N 5 q) i))]) rfl ?_
          refine va_castS hx hb hown (hts _ zw_129) (hK.1 4 _ rfl).2 (zz_rc hK (zx_pe hZ.W (q := i) hj_14).1 rfl) dX2_meanStanding_44 ?_
          refine zz_getN (ci := 4) (C := RX1) (T := TX1) (N := 7) (v := .int (nI (N 5 i))) hx hb hts hN hown hK (zx_pe hZ.W (q := i) hj_14).1 rfl zf_X1 2 (by decide) zn_489 (fun _ h9 => h9) rfl dX2_meanStanding_47 ?_
          refine zz_add hx hb dX2_meanStanding_50 ?_
          refine lv_istore_n (lv' := [(1, .int (nI ((zsum (fun q => N 5 q) i) + (N 5 i)))), (2, .int (nI i)), (0, .ref (ad 0 0))]) hx hb dX2_meanStanding_51 rfl hl (Nat.le_of_ble_eq_true rfl) rfl (fun ls hl => ?_)
          refine zz_inc (k := 1) (lv' := [(2, .int (nI (i + 1))), (1, .int (nI ((zsum (fun q => N 5 q) i) + (N 5 i)))), (0, .ref (ad 0 0))]) hx hb dX2_meanStanding_52 hl rfl (Nat.le_of_ble_eq_true rfl) rfl (fun ls hl => ?_)
          refine lv_goto (tgt := 24) hx hb dX2_meanStanding_55 (by decide) ?_
          refine ih_i (i + 1) (by omega) (by omega) _ _ _ ?_ hS ?_
          · exact hZ
          · skip
            rw [show (.int (nI (zsum (fun q => N 5 q) (i + 1))) : Value) = .int (nI ((zsum (fun q => N 5 q) i) + (N 5 i))) from congrArg Value.int (by first | rfl | (simp [zsum]; done))]
            exact lv_sub hl [0, 1, 2] rfl
    refine hL_6 (N 0 1 + 1) 0 (by first | omega | exact Nat.zero_le _) (by first | omega | (rw [Nat.zero_add]; exact Nat.lt_succ_self _)) _ _ _ hZ hS ?_
    exact lv_sub hl [0, 1, 2] rfl
  · skip
    refine zz_throw (cls := "java/lang/ArithmeticException") (is := 219) hx hb hfl hown hts hE0 zx_221 zw_791 zw_24 zt_219 hS (fun _ h => h) hl.1 hml dX2_meanStanding_10 dX2_meanStanding_13 dX2_meanStanding_14 dX2_meanStanding_16 dX2_meanStanding_19 htab (Nat.le_of_ble_eq_true rfl) (Nat.le_of_ble_eq_true rfl) (Nat.le_of_ble_eq_true rfl) (Nat.le_of_ble_eq_true rfl) hlocks (fun H9 hf9 => ?_) (Nat.le_of_ble_eq_true rfl) (Nat.le_of_ble_eq_true rfl)
    exact ⟨rfl, by assumption⟩

set_option maxHeartbeats 4000000 in
set_option maxRecDepth 100000 in
theorem c_X2_givenShare (l : Launch) (hfl : l.stackTraces = false) {K : zz_G} {A : Nat → Prop} {ad : Nat → Nat → Nat} {E : Nat → Nat → Int32} {cap : Nat → Nat} {N : Nat → Nat → Nat} {G : Nat → Nat → Int32} {L : Nat → Int64} (hI : zq N) (hk : zk K ad cap N)  : zz_C l yX2_givenShare cX2_givenShare 5 (Option.some FieldType.float) ({ frames := 6, cells := 1, slots := 6, locals := 96 } : Room) K A [.ref (ad 0 0)] (fun H => zz_W K A ad (zx_c K ad E cap N G L) H) (fun v9 _ _ => zos N ≠ 0 ∧ v9 = some (.float (zshare N))) (fun E9 _ _ => (E9 = "java/lang/ArithmeticException" ∧ zos N = 0)) zz_no := by
  refine zz_body (by decide +kernel) (Nat.le_of_ble_eq_true rfl) ?_
  intro p e s m below meth c ls hx hb hr hml hts hown hlocks hmn htab hE hA hP hl
  have hN := hE.N
  have hK := hE.K
  have hown : s.vm.findClass RX2 = some m.cls := hown
  have hl : lv_has ls 5 [(0, .ref (ad 0 0))] := hl
  have hZ : zz_Z K A s ad (zx_c K ad E cap N G L) s.heap := ⟨hE, hA, hP⟩
  have hS : va_S zz_no s.heap s.heap [] := va_S.rf
  obtain ⟨H, hH⟩ : ∃ z, z = s.heap := ⟨_, rfl⟩
  have hS0 : va_S zz_no s.heap H [] := by rw [hH]; exact hS
  rw [← hH] at hZ
  have hE0 := hE
  clear hS
  have hS := hS0
  have hB := hI.B
  have hbk := hI.bk
  have h00 := hI.f
  have h01 := hI.p
  have h02 := hI.b
  have hk0 := hk 0 (by decide)
  have hk1 := hk 1 (by decide)
  have hk2 := hk 2 (by decide)
  have hos := zos_b hI
  have hos1 : zsum (fun f => if N 3 f = 0 then 0 else N 1 f) (N 0 0) ≤ 72 := hos
  have hgv := zgv2_b hI
  show W p l e _ s m _ below meth c s.heap [] 0 0 _ (F0 m 0 ls [])
  rw [← hH]
  refine zz_con 0 hx hb dX2_givenShare_0 (by decide) ?_
  refine lv_istore_n (lv' := [(1, .int (nI 0)), (0, .ref (ad 0 0))]) hx hb dX2_givenShare_1 rfl hl (Nat.le_of_ble_eq_true rfl) rfl (fun ls hl => ?_)
  refine zz_con 0 hx hb dX2_givenShare_2 (by decide) ?_
  refine lv_istore_n (lv' := [(2, .int (nI 0)), (1, .int (nI 0)), (0, .ref (ad 0 0))]) hx hb dX2_givenShare_3 rfl hl (Nat.le_of_ble_eq_true rfl) rfl (fun ls hl => ?_)
  refine zz_con 0 hx hb dX2_givenShare_4 (by decide) ?_
  refine lv_istore_n (lv' := [(3, .int (nI 0)), (2, .int (nI 0)), (1, .int (nI 0)), (0, .ref (ad 0 0))]) hx hb dX2_givenShare_5 rfl hl (Nat.le_of_ble_eq_true rfl) rfl (fun ls hl => ?_)
  have hL_2 : ∀ (k i : Nat), i ≤ N 0 0 → N 0 0 < i + k → ∀ (H : Heap) (locs : List Loc) (ls : Array Slot), zz_Z K A s ad (zx_c K ad E cap N G L) H → va_S zz_no s.heap H locs → lv_has ls 5 [(3, .int (nI i)), (2, .int (nI (zsum (fun f => if N 3 f = 0 then 0 else N 1 f) i))), (1, .int (nI (zsum (fun f => zsit N f 0) i))), (0, .ref (ad 0 0))] → W p l e ({ frames := 6, cells := 1, slots := 6, locals := 96 } : Room) s m ([.ref (ad 0 0)] : List Value).toArray below meth c H locs 0 0 (vx_MQ below (zz_Qc (fun v9 _ _ => zos N ≠ 0 ∧ v9 = some (.float (zshare N))) zz_no) (zz_XC (fun E9 _ _ => (E9 = "java/lang/ArithmeticException" ∧ zos N = 0))) ([.ref (ad 0 0)] : List Value).toArray s ({ frames := 6, cells := 1, slots := 6, locals := 96 } : Room).cells ({ frames := 6, cells := 1, slots := 6, locals := 96 } : Room).slots zz_no) (F0 m 6 ls []) := by
    intro k
    induction k with
    | zero => intro i hi hik; omega
    | succ k ih_i =>
      intro i hii hiki H locs ls hZ hS hl
      refine lv_iload_n hx hb dX2_givenShare_6 rfl (lv_at hl 0 rfl) ?_
      refine lv_aload_n hx hb dX2_givenShare_7 rfl (lv_at hl 3 rfl) ?_
      refine zz_get (ci := 5) (C := RX2) (T := TX2) (N := 8) (v := .ref (ad 1 0)) hx hb hts hown hK (zx_ob hZ.W).1 rfl zf_X2 0 (by decide) zw_59 (fun _ h9 => h9) rfl dX2_givenShare_8 ?_
      refine zz_after (pc := 11) rfl (zz_runV (ci := 2) (q0 := (RJx4a65c, TJx4a65c, 3)) (b := ad 1 0) (As := []) (rest := [.int (nI i)]) hx hb hml hown hts (c_Jx4a65c_size_8abf5 l (K := K) (A := A) (ad := ad) (E := E) (cap := cap) (N := N) (G := G) (L := L) hk (by decide)) zw_88 zw_89 zw_90 zw_4 zw_91 zd_Jx4a65c_size_8abf5 ⟨Nat.le_of_ble_eq_true rfl, Nat.le_of_ble_eq_true rfl⟩ hZ.E hZ.A (zx_li hZ.W (t := 0) (by decide)).1 rfl rfl hZ.W hl.1 (Nat.le_of_ble_eq_true rfl) dX2_givenShare_11 ⟨Nat.le_of_ble_eq_true rfl, Nat.le_of_ble_eq_true rfl⟩) hS (fun _ h => h.elim) (fun v_5 H locs hq_3 hF_4 hS => ?_)
      refine W.widen (k := 0) (n := 0) (Nat.le_of_ble_eq_true rfl) (Nat.le_of_ble_eq_true rfl) ?_
      obtain rfl := hq_3
      have hZ := hZ.ro hF_4
      refine W.eq (g2 := F0 m 14 ls [.int (nI (N 0 0)), .int (nI i)]) rfl ?_
      refine zz_ic_ge (tgt := 65) (by first | exact hB _ _ | exact hUa _ | exact hUb _ | exact hUc _ | exact hUd _ | omega) (by first | exact hB _ _ | exact hUa _ | exact hUb _ | exact hUc _ | exact hUd _ | omega) hx hb dX2_givenShare_14 (by decide) (fun c_6 => ?_) (fun c_6 => ?_)
      · skip
        obtain rfl : i = N 0 0 := by omega
        refine lv_iload_n hx hb dX2_givenShare_65 rfl (lv_at hl 1 rfl) ?_
        refine zz_if_ne (tgt := 79) (by first | exact hB _ _ | exact hUa _ | exact hUb _ | exact hUc _ | exact hUd _ | omega) hx hb dX2_givenShare_66 (by decide) (fun c_7 => ?_) (fun c_7 => ?_)
        · skip
          refine lv_iload_n hx hb dX2_givenShare_79 rfl (lv_at hl 2 rfl) ?_
          refine lv_i2f hx hb dX2_givenShare_80 ?_
          refine lv_iload_n hx hb dX2_givenShare_81 rfl (lv_at hl 1 rfl) ?_
          refine lv_i2f hx hb dX2_givenShare_82 ?_
          refine lv_fdiv hx hb dX2_givenShare_83 (zshare_n hI (by assumption)) ?_
          refine zz_fret hx hb hr hlocks hS (Nat.le_of_ble_eq_true rfl) (Nat.le_of_ble_eq_true rfl) dX2_givenShare_84 ?_
          exact ⟨by assumption, rfl⟩
        · skip
          refine zz_throw (cls := "java/lang/ArithmeticException") (is := 228) hx hb hfl hown hts hE0 zx_221 zw_791 zw_24 zt_228 hS (fun _ h => h) hl.1 hml dX2_givenShare_69 dX2_givenShare_72 dX2_givenShare_73 dX2_givenShare_75 dX2_givenShare_78 htab (Nat.le_of_ble_eq_true rfl) (Nat.le_of_ble_eq_true rfl) (Nat.le_of_ble_eq_true rfl) (Nat.le_of_ble_eq_true rfl) hlocks (fun H9 hf9 => ?_) (Nat.le_of_ble_eq_true rfl) (Nat.le_of_ble_eq_true rfl)
          exact ⟨rfl, by assumption⟩
      · skip
        refine lv_aload_n hx hb dX2_givenShare_17 rfl (lv_at hl 3 rfl) ?_
        refine zz_get (ci := 5) (C := RX2) (T := TX2) (N := 8) (v := .ref (ad 1 0)) hx hb hts hown hK (zx_ob hZ.W).1 rfl zf_X2 0 (by decide) zw_59 (fun _ h9 => h9) rfl dX2_givenShare_18 ?_
        refine lv_iload_n hx hb dX2_givenShare_21 rfl (lv_at hl 0 rfl) ?_
        have hj_8 : i < N 0 0 := by omega
        refine zz_after (pc := 22) rfl (zz_runV (ci := 2) (q0 := (RJx4a65c, TJx4a65c, 3)) (b := ad 1 0) (As := [.int (nI i)]) (rest := []) hx hb hml hown hts (c_Jx4a65c_get_915e3 l (K := K) (A := A) (ad := ad) (E := E) (cap := cap) (N := N) (G := G) (L := L) hk (by decide) (j := i) (r := (ad 3 i)) hj_8 (zx_g0 hj_8)) zw_101 zw_102 zw_103 zw_4 zw_104 zd_Jx4a65c_get_915e3 ⟨Nat.le_of_ble_eq_true rfl, Nat.le_of_ble_eq_true rfl⟩ hZ.E hZ.A (zx_li hZ.W (t := 0) (by decide)).1 rfl rfl hZ.W hl.1 (Nat.le_of_ble_eq_true rfl) dX2_givenShare_22 ⟨Nat.le_of_ble_eq_true rfl, Nat.le_of_ble_eq_true rfl⟩) hS (fun _ h => h.elim) (fun v_11 H locs hq_9 hF_10 hS => ?_)
        refine W.widen (k := 0) (n := 0) (Nat.le_of_ble_eq_true rfl) (Nat.le_of_ble_eq_true rfl) ?_
        obtain rfl := hq_9
        have hZ := hZ.ro hF_10
        refine W.eq (g2 := F0 m 25 ls [.ref (ad 3 i)]) rfl ?_
        refine va_castS hx hb hown (hts _ zw_115) (hK.1 3 _ rfl).2 (zz_rc hK (zx_fl hZ.W (f := i) hj_8).1 rfl) dX2_givenShare_25 ?_
        refine lv_astore (lv' := [(4, .ref (ad 3 i)), (3, .int (nI i)), (2, .int (nI (zsum (fun f => if N 3 f = 0 then 0 else N 1 f) i))), (1, .int (nI (zsum (fun f => zsit N f 0) i))), (0, .ref (ad 0 0))]) hx hb dX2_givenShare_28 hl (Nat.le_of_ble_eq_true rfl) rfl (fun ls hl => ?_)
        refine lv_iload_n hx hb dX2_givenShare_30 rfl (lv_at hl 3 rfl) ?_
        refine lv_aload_n hx hb dX2_givenShare_31 rfl (lv_at hl 4 rfl) ?_
        refine lv_aload hx hb dX2_givenShare_32 (lv_at hl 0 rfl) ?_
        refine zz_after (pc := 34) rfl (zz_runV (ci := 5) (q0 := (RX2, TX2, 8)) (b := ad 0 0) (As := [.ref (ad 3 i)]) (rest := [.int (nI (zsum (fun f => zsit N f 0) i))]) hx hb hml hown hts (c_X2_countSeatsGivenOn l (K := K) (A := A) (ad := ad) (E := E) (cap := cap) (N := N) (G := G) (L := L) hI hk hj_8) zw_223 zw_225 zs_11 zw_1 zw_226 zd_X2_countSeatsGivenOn ⟨Nat.le_of_ble_eq_true rfl, Nat.le_of_ble_eq_true rfl⟩ hZ.E hZ.A (zx_ob hZ.W).1 rfl rfl hZ.W hl.1 (Nat.le_of_ble_eq_true rfl) dX2_givenShare_34 ⟨Nat.le_of_ble_eq_true rfl, Nat.le_of_ble_eq_true rfl⟩) hS (fun _ h => h.elim) (fun v_14 H locs hq_12 hF_13 hS => ?_)
        refine W.widen (k := 0) (n := 0) (Nat.le_of_ble_eq_true rfl) (Nat.le_of_ble_eq_true rfl) ?_
        obtain rfl := hq_12
        have hZ := hZ.ro hF_13
        refine W.eq (g2 := F0 m 37 ls [.int (nI (zsit N i 0)), .int (nI (zsum (fun f => zsit N f 0) i))]) rfl ?_
        refine zz_add hx hb dX2_givenShare_37 ?_
        refine lv_istore_n (lv' := [(1, .int (nI ((zsum (fun f => zsit N f 0) i) + (zsit N i 0)))), (4, .ref (ad 3 i)), (3, .int (nI i)), (2, .int (nI (zsum (fun f => if N 3 f = 0 then 0 else N 1 f) i))), (0, .ref (ad 0 0))]) hx hb dX2_givenShare_38 rfl hl (Nat.le_of_ble_eq_true rfl) rfl (fun ls hl => ?_)
        refine lv_iload_n hx hb dX2_givenShare_39 rfl (lv_at hl 3 rfl) ?_
        refine lv_aload hx hb dX2_givenShare_40 (lv_at hl 1 rfl) ?_
        refine zz_getN (ci := 3) (C := RX0) (T := TX0) (N := 7) (v := .int (nI (N 3 i))) hx hb hts hN hown hK (zx_fl hZ.W (f := i) hj_8).1 rfl zf_X0 3 (by decide) zn_340 (fun _ h9 => h9) rfl dX2_givenShare_42 ?_
        refine zz_if_eq (tgt := 56) (by first | exact hB _ _ | exact hUa _ | exact hUb _ | exact hUc _ | exact hUd _ | omega) hx hb dX2_givenShare_45 (by decide) (fun c_15 => ?_) (fun c_15 => ?_)
        · skip
          refine zz_con 0 hx hb dX2_givenShare_56 (by decide) ?_
          refine zz_add hx hb dX2_givenShare_57 ?_
          refine lv_istore_n (lv' := [(2, .int (nI ((zsum (fun f => if N 3 f = 0 then 0 else N 1 f) i) + 0))), (1, .int (nI ((zsum (fun f => zsit N f 0) i) + (zsit N i 0)))), (4, .ref (ad 3 i)), (3, .int (nI i)), (0, .ref (ad 0 0))]) hx hb dX2_givenShare_58 rfl hl (Nat.le_of_ble_eq_true rfl) rfl (fun ls hl => ?_)
          refine zz_inc (k := 3) (lv' := [(3, .int (nI (i + 1))), (2, .int (nI ((zsum (fun f => if N 3 f = 0 then 0 else N 1 f) i) + 0))), (1, .int (nI ((zsum (fun f => zsit N f 0) i) + (zsit N i 0)))), (4, .ref (ad 3 i)), (0, .ref (ad 0 0))]) hx hb dX2_givenShare_59 hl rfl (Nat.le_of_ble_eq_true rfl) rfl (fun ls hl => ?_)
          refine lv_goto (tgt := 6) hx hb dX2_givenShare_62 (by decide) ?_
          refine ih_i (i + 1) (by omega) (by omega) _ _ _ ?_ hS ?_
          · exact hZ
          · skip
            rw [show (.int (nI (zsum (fun f => if N 3 f = 0 then 0 else N 1 f) (i + 1))) : Value) = .int (nI ((zsum (fun f => if N 3 f = 0 then 0 else N 1 f) i) + 0)) from congrArg Value.int (by first | rfl | (simp [zsum, c_6, c_15]; done) | (simp_all [zsum]; done))]
            rw [show (.int (nI (zsum (fun f => zsit N f 0) (i + 1))) : Value) = .int (nI ((zsum (fun f => zsit N f 0) i) + (zsit N i 0))) from congrArg Value.int (by first | rfl | (simp [zsum, c_6, c_15]; done) | (simp_all [zsum]; done))]
            exact lv_sub hl [0, 1, 2, 4] rfl
        · skip
          refine lv_aload hx hb dX2_givenShare_48 (lv_at hl 1 rfl) ?_
          refine zz_getN (ci := 3) (C := RX0) (T := TX0) (N := 7) (v := .int (nI (N 1 i))) hx hb hts hN hown hK (zx_fl hZ.W (f := i) hj_8).1 rfl zf_X0 1 (by decide) zn_336 (fun _ h9 => h9) rfl dX2_givenShare_50 ?_
          refine lv_goto (tgt := 57) hx hb dX2_givenShare_53 (by decide) ?_
          refine zz_add hx hb dX2_givenShare_57 ?_
          refine lv_istore_n (lv' := [(2, .int (nI ((zsum (fun f => if N 3 f = 0 then 0 else N 1 f) i) + (N 1 i)))), (1, .int (nI ((zsum (fun f => zsit N f 0) i) + (zsit N i 0)))), (4, .ref (ad 3 i)), (3, .int (nI i)), (0, .ref (ad 0 0))]) hx hb dX2_givenShare_58 rfl hl (Nat.le_of_ble_eq_true rfl) rfl (fun ls hl => ?_)
          refine zz_inc (k := 3) (lv' := [(3, .int (nI (i + 1))), (2, .int (nI ((zsum (fun f => if N 3 f = 0 then 0 else N 1 f) i) + (N 1 i)))), (1, .int (nI ((zsum (fun f => zsit N f 0) i) + (zsit N i 0)))), (4, .ref (ad 3 i)), (0, .ref (ad 0 0))]) hx hb dX2_givenShare_59 hl rfl (Nat.le_of_ble_eq_true rfl) rfl (fun ls hl => ?_)
          refine lv_goto (tgt := 6) hx hb dX2_givenShare_62 (by decide) ?_
          refine ih_i (i + 1) (by omega) (by omega) _ _ _ ?_ hS ?_
          · exact hZ
          · skip
            rw [show (.int (nI (zsum (fun f => if N 3 f = 0 then 0 else N 1 f) (i + 1))) : Value) = .int (nI ((zsum (fun f => if N 3 f = 0 then 0 else N 1 f) i) + (N 1 i))) from congrArg Value.int (by first | rfl | (simp [zsum, c_6, c_15]; done) | (simp_all [zsum]; done))]
            rw [show (.int (nI (zsum (fun f => zsit N f 0) (i + 1))) : Value) = .int (nI ((zsum (fun f => zsit N f 0) i) + (zsit N i 0))) from congrArg Value.int (by first | rfl | (simp [zsum, c_6, c_15]; done) | (simp_all [zsum]; done))]
            exact lv_sub hl [0, 1, 2, 4] rfl
  refine hL_2 (N 0 0 + 1) 0 (by first | omega | exact Nat.zero_le _) (by first | omega | (rw [Nat.zero_add]; exact Nat.lt_succ_self _)) _ _ _ hZ hS ?_
  exact lv_sub hl [0, 1, 2, 3] rfl
