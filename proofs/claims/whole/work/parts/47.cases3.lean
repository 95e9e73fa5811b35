/-! by program (gen.py): contracts of methods -/
theorem zd_X2_bookings : yX2_bookings.cls ≠ "java/lang/invoke/MethodHandle" ∧ yX2_bookings.cls ≠ "java/lang/invoke/VarHandle" ∧ (parseMethodDescriptor yX2_bookings.desc).map (fun d => d.parameters.length) = some 0 := by decide +kernel
theorem zd_X2_cleaning : yX2_cleaning.cls ≠ "java/lang/invoke/MethodHandle" ∧ yX2_cleaning.cls ≠ "java/lang/invoke/VarHandle" ∧ (parseMethodDescriptor yX2_cleaning.desc).map (fun d => d.parameters.length) = some 0 := by decide +kernel
theorem zd_X2_day : yX2_day.cls ≠ "java/lang/invoke/MethodHandle" ∧ yX2_day.cls ≠ "java/lang/invoke/VarHandle" ∧ (parseMethodDescriptor yX2_day.desc).map (fun d => d.parameters.length) = some 0 := by decide +kernel
theorem zd_X2_discomfort : yX2_discomfort.cls ≠ "java/lang/invoke/MethodHandle" ∧ yX2_discomfort.cls ≠ "java/lang/invoke/VarHandle" ∧ (parseMethodDescriptor yX2_discomfort.desc).map (fun d => d.parameters.length) = some 0 := by decide +kernel
theorem zd_X2_energy : yX2_energy.cls ≠ "java/lang/invoke/MethodHandle" ∧ yX2_energy.cls ≠ "java/lang/invoke/VarHandle" ∧ (parseMethodDescriptor yX2_energy.desc).map (fun d => d.parameters.length) = some 0 := by decide +kernel
theorem zd_X2_isSound : yX2_isSound.cls ≠ "java/lang/invoke/MethodHandle" ∧ yX2_isSound.cls ≠ "java/lang/invoke/VarHandle" ∧ (parseMethodDescriptor yX2_isSound.desc).map (fun d => d.parameters.length) = some 0 := by decide +kernel
theorem zd_X2_noShows : yX2_noShows.cls ≠ "java/lang/invoke/MethodHandle" ∧ yX2_noShows.cls ≠ "java/lang/invoke/VarHandle" ∧ (parseMethodDescriptor yX2_noShows.desc).map (fun d => d.parameters.length) = some 0 := by decide +kernel
theorem zd_X2_planLoss : yX2_planLoss.cls ≠ "java/lang/invoke/MethodHandle" ∧ yX2_planLoss.cls ≠ "java/lang/invoke/VarHandle" ∧ (parseMethodDescriptor yX2_planLoss.desc).map (fun d => d.parameters.length) = some 0 := by decide +kernel
theorem zd_X3_bookings : yX3_bookings.cls ≠ "java/lang/invoke/MethodHandle" ∧ yX3_bookings.cls ≠ "java/lang/invoke/VarHandle" ∧ (parseMethodDescriptor yX3_bookings.desc).map (fun d => d.parameters.length) = some 0 := by decide +kernel
theorem zd_X3_cleaning : yX3_cleaning.cls ≠ "java/lang/invoke/MethodHandle" ∧ yX3_cleaning.cls ≠ "java/lang/invoke/VarHandle" ∧ (parseMethodDescriptor yX3_cleaning.desc).map (fun d => d.parameters.length) = some 0 := by decide +kernel
theorem zd_X3_day : yX3_day.cls ≠ "java/lang/invoke/MethodHandle" ∧ yX3_day.cls ≠ "java/lang/invoke/VarHandle" ∧ (parseMethodDescriptor yX3_day.desc).map (fun d => d.parameters.length) = some 0 := by decide +kernel
theorem zd_X3_discomfort : yX3_discomfort.cls ≠ "java/lang/invoke/MethodHandle" ∧ yX3_discomfort.cls ≠ "java/lang/invoke/VarHandle" ∧ (parseMethodDescriptor yX3_discomfort.desc).map (fun d => d.parameters.length) = some 0 := by decide +kernel
theorem zd_X3_energy : yX3_energy.cls ≠ "java/lang/invoke/MethodHandle" ∧ yX3_energy.cls ≠ "java/lang/invoke/VarHandle" ∧ (parseMethodDescriptor yX3_energy.desc).map (fun d => d.parameters.length) = some 0 := by decide +kernel
theorem zd_X3_isSound : yX3_isSound.cls ≠ "java/lang/invoke/MethodHandle" ∧ yX3_isSound.cls ≠ "java/lang/invoke/VarHandle" ∧ (parseMethodDescriptor yX3_isSound.desc).map (fun d => d.parameters.length) = some 0 := by decide +kernel
theorem zd_X3_noShows : yX3_noShows.cls ≠ "java/lang/invoke/MethodHandle" ∧ yX3_noShows.cls ≠ "java/lang/invoke/VarHandle" ∧ (parseMethodDescriptor yX3_noShows.desc).map (fun d => d.parameters.length) = some 0 := by decide +kernel
theorem zd_X3_plan : yX3_plan.cls ≠ "java/lang/invoke/MethodHandle" ∧ yX3_plan.cls ≠ "java/lang/invoke/VarHandle" ∧ (parseMethodDescriptor yX3_plan.desc).map (fun d => d.parameters.length) = some 0 := by decide +kernel
theorem zd_X3_planByTrying : yX3_planByTrying.cls ≠ "java/lang/invoke/MethodHandle" ∧ yX3_planByTrying.cls ≠ "java/lang/invoke/VarHandle" ∧ (parseMethodDescriptor yX3_planByTrying.desc).map (fun d => d.parameters.length) = some 0 := by decide +kernel
theorem zd_X3_planLoss : yX3_planLoss.cls ≠ "java/lang/invoke/MethodHandle" ∧ yX3_planLoss.cls ≠ "java/lang/invoke/VarHandle" ∧ (parseMethodDescriptor yX3_planLoss.desc).map (fun d => d.parameters.length) = some 0 := by decide +kernel
set_option maxHeartbeats 4000000 in
set_option maxRecDepth 100000 in
theorem lawc_bookings {p : Program} (l : Launch) (hfl : l.stackTraces = false) {e : Env} {s : State} {m : MethodId} {below : List Frame} {meth : Method} {c : Code} {H : Heap} {locs : List Loc} {cells slots : Nat} {Q : State → Prop} {b L : Nat} {xs : Nat → Int32} {ls : Array Slot} {K : zz_G} {om i : Nat} {th : Int32} {vl : Int64} {vd : UInt64} {N : Nat → Nat → Nat} {G : Nat → Nat → Int32} {Ls : Nat → Int64} (C : lw_C p s m c b L xs) (hi : i + 3 ≤ L) (hzi : zi N) (hg : zgi N G) (hS : va_S (lw_A s) s.heap H locs) (hI : zv_I K s om th vl vd N G Ls N G Ls H) (hl : lv_has ls 9 [(5, .int (nI i)), (4, .ref (om + 15)), (3, .ref (om + 14)), (2, .ref (zv_ad om 0 0)), (1, .ref s.heap.size), (0, .ref b)]) (hc : cells + 10 ≤ room_1.cells) (hs : slots + 200 ≤ room_1.slots)
    (kk : ∀ (H1 : Heap) (locs1 : List Loc) (ls1 : Array Slot), va_S (lw_A s) s.heap H1 locs1 → lw_V K s om H1 → lv_has ls1 9 [(5, .int (nI i)), (4, .ref (om + 15)), (3, .ref (om + 14)), (2, .ref (zv_ad om 0 0)), (1, .ref s.heap.size), (0, .ref b)] → W p l e room_1 s m #[Value.ref b] below meth c H1 locs1 (cells + 10) (slots + 200) Q (F0 m 1502 ls1 [])) : W p l e room_1 s m #[Value.ref b] below meth c H locs cells slots Q (F0 m 552 ls []) := by
  obtain ⟨hx, hb, hml, hown, hts, hXX, hbl, hL⟩ := id C
  have hom := hI.1
  obtain ⟨ad, Ek, cap, had, hk, hW⟩ := hI.2.2.1
  refine lv_aload_n hx hb dL_law_552 rfl (lv_at hl 4 rfl) ?_
  refine W.eq (g2 := F0 m 553 ls [.ref (ad 0 0)]) (by rw [had]) ?_
  refine zz_after (A := lw_A s) (pc := 553) rfl (zz_runV (ci := 5) (q0 := (RX2, TX2, 8)) (b := ad 0 0) (As := []) (rest := []) hx hb hml hown hts (c_X2_bookings l (K := K) (A := lw_X s om) (ad := ad) (E := Ek) (cap := cap) (N := N) (G := G) (L := Ls) hzi.q hk) zw_84 zw_85 zw_86 zw_1 zw_87 zd_X2_bookings ⟨Nat.le_of_ble_eq_true rfl, Nat.le_of_ble_eq_true rfl⟩ (hI.2.1.narrow lw_XA) hI.nx (zx_ob hW).1 rfl rfl hW hl.1 (Nat.le_of_ble_eq_true rfl) dL_law_553 ⟨Nat.le_trans (Nat.add_le_add_left (Nat.le_of_ble_eq_true rfl) _) hc, Nat.le_trans (Nat.add_le_add_left (Nat.le_of_ble_eq_true rfl) _) hs⟩) hS (fun _ z => z.elim) (fun v H locs hq hF hS => ?_)
  obtain rfl := hq
  have hI := hI.ro hF
  refine W.widen (k := cells + 10) (n := slots + 200) (Nat.add_le_add_left (Nat.le_of_ble_eq_true rfl) _) (Nat.add_le_add_left (Nat.le_of_ble_eq_true rfl) _) ?_
  refine W.eq (g2 := F0 m 556 ls [.int (nI (N 0 2))]) rfl ?_
  refine lv_aload_n hx hb dL_law_556 rfl (lv_at hl 3 rfl) ?_
  refine zz_after (A := lw_A s) (pc := 557) rfl (zz_runV (ci := 6) (q0 := (RX3, TX3, 22)) (b := zv_ad om 0 0) (As := []) (rest := [.int (nI (N 0 2))]) hx hb hml hown hts (c_X3_bookings l (K := K) (A := lw_M om H) (ad := zv_ad om) (th := th) (N := N) (G := G) (L := Ls) hzi.q) zw_931 zw_932 zw_933 zw_5 zw_934 zd_X3_bookings ⟨Nat.le_of_ble_eq_true rfl, Nat.le_of_ble_eq_true rfl⟩ (hI.2.1.narrow hI.ma) (fun q h => Or.inr h) (zm_ob hI.2.2.2.1).1 rfl rfl hI.2.2.2.1.wide hl.1 (Nat.le_of_ble_eq_true rfl) dL_law_557 ⟨hc, hs⟩) hS hI.ma (fun v H locs hq hF hS => ?_)
  obtain ⟨rfl, hM⟩ := hq
  have hI := hI.onM hF (zv_M.slim hM)
  refine W.eq (g2 := F0 m 560 ls [.int (nI (N 0 2)), .int (nI (N 0 2))]) rfl ?_
  refine lv_icmp_eq (tgt := 1502) hx hb dL_law_560 (by decide) (fun _ => ?_) (fun h8 => absurd rfl h8)
  exact kk _ _ _ hS ⟨_, _, _, _, _, _, hzi, hg, hI⟩ (lv_sub hl [0, 1, 2, 3, 4, 5] rfl)

set_option maxHeartbeats 4000000 in
set_option maxRecDepth 100000 in
theorem lawc_plan {p : Program} (l : Launch) (hfl : l.stackTraces = false) {e : Env} {s : State} {m : MethodId} {below : List Frame} {meth : Method} {c : Code} {H : Heap} {locs : List Loc} {cells slots : Nat} {Q : State → Prop} {b L : Nat} {xs : Nat → Int32} {ls : Array Slot} {K : zz_G} {om i : Nat} {th : Int32} {vl : Int64} {vd : UInt64} {N : Nat → Nat → Nat} {G : Nat → Nat → Int32} {Ls : Nat → Int64} (C : lw_C p s m c b L xs) (hi : i + 3 ≤ L) (hzi : zi N) (hg : zgi N G) (hS : va_S (lw_A s) s.heap H locs) (hI : zv_I K s om th vl vd N G Ls N G Ls H) (hl : lv_has ls 9 [(5, .int (nI i)), (4, .ref (om + 15)), (3, .ref (om + 14)), (2, .ref (zv_ad om 0 0)), (1, .ref s.heap.size), (0, .ref b)]) (hc : cells + 10 ≤ room_1.cells) (hs : slots + 200 ≤ room_1.slots)
    (kk : ∀ (H1 : Heap) (locs1 : List Loc) (ls1 : Array Slot), va_S (lw_A s) s.heap H1 locs1 → lw_V K s om H1 → lv_has ls1 9 [(5, .int (nI i)), (4, .ref (om + 15)), (3, .ref (om + 14)), (2, .ref (zv_ad om 0 0)), (1, .ref s.heap.size), (0, .ref b)] → W p l e room_1 s m #[Value.ref b] below meth c H1 locs1 (cells + 10) (slots + 200) Q (F0 m 1502 ls1 [])) : W p l e room_1 s m #[Value.ref b] below meth c H locs cells slots Q (F0 m 621 ls []) := by
  obtain ⟨hx, hb, hml, hown, hts, hXX, hbl, hL⟩ := id C
  have hom := hI.1
  obtain ⟨ad, Ek, cap, had, hk, hW⟩ := hI.2.2.1
  refine lv_aload_n hx hb dL_law_621 rfl (lv_at hl 4 rfl) ?_
  refine W.eq (g2 := F0 m 622 ls [.ref (ad 0 0)]) (by rw [had]) ?_
  refine zz_after (A := lw_A s) (pc := 622) rfl (zz_runV (ci := 5) (q0 := (RX2, TX2, 8)) (b := ad 0 0) (As := []) (rest := []) hx hb hml hown hts (c_X2_plan l (K := K) (A := lw_X s om) (ad := ad) (E := Ek) (cap := cap) (N := N) (G := G) (L := Ls) hzi.q hk) zw_92 zw_93 zw_94 zw_1 zw_95 zd_X2_plan ⟨Nat.le_of_ble_eq_true rfl, Nat.le_of_ble_eq_true rfl⟩ (hI.2.1.narrow lw_XA) hI.nx (zx_ob hW).1 rfl rfl hW hl.1 (Nat.le_of_ble_eq_true rfl) dL_law_622 ⟨Nat.le_trans (Nat.add_le_add_left (Nat.le_of_ble_eq_true rfl) _) hc, Nat.le_trans (Nat.add_le_add_left (Nat.le_of_ble_eq_true rfl) _) hs⟩) hS lw_XA (fun v H locs hq hF hS => ?_)
  obtain ⟨rfl, hW9⟩ := hq
  have hI := hI.onX hF ⟨ad, _, cap, had, hk, hW9⟩
  refine W.widen (k := cells + 10) (n := slots + 200) (Nat.add_le_add_left (Nat.le_of_ble_eq_true rfl) _) (Nat.add_le_add_left (Nat.le_of_ble_eq_true rfl) _) ?_
  refine W.eq (g2 := F0 m 625 ls [.int (nI (zplan N))]) rfl ?_
  refine lv_aload_n hx hb dL_law_625 rfl (lv_at hl 3 rfl) ?_
  refine zz_after (A := lw_A s) (pc := 626) rfl (zz_runV (ci := 6) (q0 := (RX3, TX3, 22)) (b := zv_ad om 0 0) (As := []) (rest := [.int (nI (zplan N))]) hx hb hml hown hts (c_X3_plan l (K := K) (A := lw_M om H) (ad := zv_ad om) (th := th) (N := N) (G := G) (L := Ls) hzi.q) zw_939 zw_940 zw_941 zw_5 zw_942 zd_X3_plan ⟨Nat.le_of_ble_eq_true rfl, Nat.le_of_ble_eq_true rfl⟩ (hI.2.1.narrow hI.ma) (fun q h => Or.inr h) (zm_ob hI.2.2.2.1).1 rfl rfl hI.2.2.2.1.wide hl.1 (Nat.le_of_ble_eq_true rfl) dL_law_626 ⟨hc, hs⟩) hS hI.ma (fun v H locs hq hF hS => ?_)
  obtain ⟨rfl, hM⟩ := hq
  have hI := hI.onM hF (zv_M.slim hM)
  refine W.eq (g2 := F0 m 629 ls [.int (nI (zplan N)), .int (nI (zplan N))]) rfl ?_
  refine lv_icmp_eq (tgt := 1502) hx hb dL_law_629 (by decide) (fun _ => ?_) (fun h8 => absurd rfl h8)
  exact kk _ _ _ hS ⟨_, _, _, _, _, _, hzi, hg, hI⟩ (lv_sub hl [0, 1, 2, 3, 4, 5] rfl)

set_option maxHeartbeats 4000000 in
set_option maxRecDepth 100000 in
theorem lawc_planByTrying {p : Program} (l : Launch) (hfl : l.stackTraces = false) {e : Env} {s : State} {m : MethodId} {below : List Frame} {meth : Method} {c : Code} {H : Heap} {locs : List Loc} {cells slots : Nat} {Q : State → Prop} {b L : Nat} {xs : Nat → Int32} {ls : Array Slot} {K : zz_G} {om i : Nat} {th : Int32} {vl : Int64} {vd : UInt64} {N : Nat → Nat → Nat} {G : Nat → Nat → Int32} {Ls : Nat → Int64} (C : lw_C p s m c b L xs) (hi : i + 3 ≤ L) (hzi : zi N) (hg : zgi N G) (hS : va_S (lw_A s) s.heap H locs) (hI : zv_I K s om th vl vd N G Ls N G Ls H) (hl : lv_has ls 9 [(5, .int (nI i)), (4, .ref (om + 15)), (3, .ref (om + 14)), (2, .ref (zv_ad om 0 0)), (1, .ref s.heap.size), (0, .ref b)]) (hc : cells + 10 ≤ room_1.cells) (hs : slots + 200 ≤ room_1.slots)
    (kk : ∀ (H1 : Heap) (locs1 : List Loc) (ls1 : Array Slot), va_S (lw_A s) s.heap H1 locs1 → lw_V K s om H1 → lv_has ls1 9 [(5, .int (nI i)), (4, .ref (om + 15)), (3, .ref (om + 14)), (2, .ref (zv_ad om 0 0)), (1, .ref s.heap.size), (0, .ref b)] → W p l e room_1 s m #[Value.ref b] below meth c H1 locs1 (cells + 10) (slots + 200) Q (F0 m 1502 ls1 [])) : W p l e room_1 s m #[Value.ref b] below meth c H locs cells slots Q (F0 m 634 ls []) := by
  obtain ⟨hx, hb, hml, hown, hts, hXX, hbl, hL⟩ := id C
  have hom := hI.1
  obtain ⟨ad, Ek, cap, had, hk, hW⟩ := hI.2.2.1
  refine lv_aload_n hx hb dL_law_634 rfl (lv_at hl 4 rfl) ?_
  refine W.eq (g2 := F0 m 635 ls [.ref (ad 0 0)]) (by rw [had]) ?_
  refine zz_after (A := lw_A s) (pc := 635) rfl (zz_runV (ci := 5) (q0 := (RX2, TX2, 8)) (b := ad 0 0) (As := []) (rest := []) hx hb hml hown hts (c_X2_planByTrying l (K := K) (A := lw_X s om) (ad := ad) (E := Ek) (cap := cap) (N := N) (G := G) (L := Ls) hzi.q hk) zw_149 zw_150 zw_151 zw_1 zw_152 zd_X2_planByTrying ⟨Nat.le_of_ble_eq_true rfl, Nat.le_of_ble_eq_true rfl⟩ (hI.2.1.narrow lw_XA) hI.nx (zx_ob hW).1 rfl rfl hW hl.1 (Nat.le_of_ble_eq_true rfl) dL_law_635 ⟨Nat.le_trans (Nat.add_le_add_left (Nat.le_of_ble_eq_true rfl) _) hc, Nat.le_trans (Nat.add_le_add_left (Nat.le_of_ble_eq_true rfl) _) hs⟩) hS (fun _ z => z.elim) (fun v H locs hq hF hS => ?_)
  obtain rfl := hq
  have hI := hI.ro hF
  refine W.widen (k := cells + 10) (n := slots + 200) (Nat.add_le_add_left (Nat.le_of_ble_eq_true rfl) _) (Nat.add_le_add_left (Nat.le_of_ble_eq_true rfl) _) ?_
  refine W.eq (g2 := F0 m 638 ls [.int (nI (zplan N))]) rfl ?_
  refine lv_aload_n hx hb dL_law_638 rfl (lv_at hl 3 rfl) ?_
  refine zz_after (A := lw_A s) (pc := 639) rfl (zz_runV (ci := 6) (q0 := (RX3, TX3, 22)) (b := zv_ad om 0 0) (As := []) (rest := [.int (nI (zplan N))]) hx hb hml hown hts (c_X3_planByTrying l (K := K) (A := lw_M om H) (ad := zv_ad om) (th := th) (N := N) (G := G) (L := Ls) hzi.q) zw_958 zw_959 zw_960 zw_5 zw_961 zd_X3_planByTrying ⟨Nat.le_of_ble_eq_true rfl, Nat.le_of_ble_eq_true rfl⟩ (hI.2.1.narrow hI.ma) (fun q h => Or.inr h) (zm_ob hI.2.2.2.1).1 rfl rfl hI.2.2.2.1.wide hl.1 (Nat.le_of_ble_eq_true rfl) dL_law_639 ⟨hc, hs⟩) hS hI.ma (fun v H locs hq hF hS => ?_)
  obtain ⟨rfl, hM⟩ := hq
  have hI := hI.onM hF (zv_M.slim hM)
  refine W.eq (g2 := F0 m 642 ls [.int (nI (zplan N)), .int (nI (zplan N))]) rfl ?_
  refine lv_icmp_eq (tgt := 1502) hx hb dL_law_642 (by decide) (fun _ => ?_) (fun h8 => absurd rfl h8)
  exact kk _ _ _ hS ⟨_, _, _, _, _, _, hzi, hg, hI⟩ (lv_sub hl [0, 1, 2, 3, 4, 5] rfl)

set_option maxHeartbeats 4000000 in
set_option maxRecDepth 100000 in
theorem lawc_planLoss {p : Program} (l : Launch) (hfl : l.stackTraces = false) {e : Env} {s : State} {m : MethodId} {below : List Frame} {meth : Method} {c : Code} {H : Heap} {locs : List Loc} {cells slots : Nat} {Q : State → Prop} {b L : Nat} {xs : Nat → Int32} {ls : Array Slot} {K : zz_G} {om i : Nat} {th : Int32} {vl : Int64} {vd : UInt64} {N : Nat → Nat → Nat} {G : Nat → Nat → Int32} {Ls : Nat → Int64} (C : lw_C p s m c b L xs) (hi : i + 3 ≤ L) (hzi : zi N) (hg : zgi N G) (hS : va_S (lw_A s) s.heap H locs) (hI : zv_I K s om th vl vd N G Ls N G Ls H) (hl : lv_has ls 9 [(5, .int (nI i)), (4, .ref (om + 15)), (3, .ref (om + 14)), (2, .ref (zv_ad om 0 0)), (1, .ref s.heap.size), (0, .ref b)]) (hc : cells + 10 ≤ room_1.cells) (hs : slots + 200 ≤ room_1.slots)
    (kk : ∀ (H1 : Heap) (locs1 : List Loc) (ls1 : Array Slot), va_S (lw_A s) s.heap H1 locs1 → lw_V K s om H1 → lv_has ls1 9 [(5, .int (nI i)), (4, .ref (om + 15)), (3, .ref (om + 14)), (2, .ref (zv_ad om 0 0)), (1, .ref s.heap.size), (0, .ref b)] → W p l e room_1 s m #[Value.ref b] below meth c H1 locs1 (cells + 10) (slots + 200) Q (F0 m 1502 ls1 [])) : W p l e room_1 s m #[Value.ref b] below meth c H locs cells slots Q (F0 m 647 ls []) := by
  obtain ⟨hx, hb, hml, hown, hts, hXX, hbl, hL⟩ := id C
  have hom := hI.1
  obtain ⟨ad, Ek, cap, had, hk, hW⟩ := hI.2.2.1
  refine lv_aload_n hx hb dL_law_647 rfl (lv_at hl 4 rfl) ?_
  refine W.eq (g2 := F0 m 648 ls [.ref (ad 0 0)]) (by rw [had]) ?_
  refine zz_after (A := lw_A s) (pc := 648) rfl (zz_runV (ci := 5) (q0 := (RX2, TX2, 8)) (b := ad 0 0) (As := []) (rest := []) hx hb hml hown hts (c_X2_planLoss l (K := K) (A := lw_X s om) (ad := ad) (E := Ek) (cap := cap) (N := N) (G := G) (L := Ls) hzi.q hk) zw_185 zw_186 zw_187 zw_1 zw_188 zd_X2_planLoss ⟨Nat.le_of_ble_eq_true rfl, Nat.le_of_ble_eq_true rfl⟩ (hI.2.1.narrow lw_XA) hI.nx (zx_ob hW).1 rfl rfl hW hl.1 (Nat.le_of_ble_eq_true rfl) dL_law_648 ⟨Nat.le_trans (Nat.add_le_add_left (Nat.le_of_ble_eq_true rfl) _) hc, Nat.le_trans (Nat.add_le_add_left (Nat.le_of_ble_eq_true rfl) _) hs⟩) hS lw_XA (fun v H locs hq hF hS => ?_)
  obtain ⟨rfl, hW9⟩ := hq
  have hI := hI.onX hF ⟨ad, _, cap, had, hk, hW9⟩
  refine W.widen (k := cells + 10) (n := slots + 200) (Nat.add_le_add_left (Nat.le_of_ble_eq_true rfl) _) (Nat.add_le_add_left (Nat.le_of_ble_eq_true rfl) _) ?_
  refine W.eq (g2 := F0 m 651 ls [.int (nI (zls 6 N (zplan N)))]) rfl ?_
  refine lv_aload_n hx hb dL_law_651 rfl (lv_at hl 3 rfl) ?_
  refine zz_after (A := lw_A s) (pc := 652) rfl (zz_runV (ci := 6) (q0 := (RX3, TX3, 22)) (b := zv_ad om 0 0) (As := []) (rest := [.int (nI (zls 6 N (zplan N)))]) hx hb hml hown hts (c_X3_planLoss l (K := K) (A := lw_M om H) (ad := zv_ad om) (th := th) (N := N) (G := G) (L := Ls) hzi.q) zw_962 zw_963 zw_964 zw_5 zw_965 zd_X3_planLoss ⟨Nat.le_of_ble_eq_true rfl, Nat.le_of_ble_eq_true rfl⟩ (hI.2.1.narrow hI.ma) (fun q h => Or.inr h) (zm_ob hI.2.2.2.1).1 rfl rfl hI.2.2.2.1.wide hl.1 (Nat.le_of_ble_eq_true rfl) dL_law_652 ⟨hc, hs⟩) hS hI.ma (fun v H locs hq hF hS => ?_)
  obtain ⟨rfl, hM⟩ := hq
  have hI := hI.onM hF (zv_M.slim hM)
  refine W.eq (g2 := F0 m 655 ls [.int (nI (zls 6 N (zplan N))), .int (nI (zls 6 N (zplan N)))]) rfl ?_
  refine lv_icmp_eq (tgt := 1502) hx hb dL_law_655 (by decide) (fun _ => ?_) (fun h8 => absurd rfl h8)
  exact kk _ _ _ hS ⟨_, _, _, _, _, _, hzi, hg, hI⟩ (lv_sub hl [0, 1, 2, 3, 4, 5] rfl)

set_option maxHeartbeats 4000000 in
set_option maxRecDepth 100000 in
theorem lawc_day {p : Program} (l : Launch) (hfl : l.stackTraces = false) {e : Env} {s : State} {m : MethodId} {below : List Frame} {meth : Method} {c : Code} {H : Heap} {locs : List Loc} {cells slots : Nat} {Q : State → Prop} {b L : Nat} {xs : Nat → Int32} {ls : Array Slot} {K : zz_G} {om i : Nat} {th : Int32} {vl : Int64} {vd : UInt64} {N : Nat → Nat → Nat} {G : Nat → Nat → Int32} {Ls : Nat → Int64} (C : lw_C p s m c b L xs) (hi : i + 3 ≤ L) (hzi : zi N) (hg : zgi N G) (hS : va_S (lw_A s) s.heap H locs) (hI : zv_I K s om th vl vd N G Ls N G Ls H) (hl : lv_has ls 9 [(5, .int (nI i)), (4, .ref (om + 15)), (3, .ref (om + 14)), (2, .ref (zv_ad om 0 0)), (1, .ref s.heap.size), (0, .ref b)]) (hc : cells + 10 ≤ room_1.cells) (hs : slots + 200 ≤ room_1.slots)
    (kk : ∀ (H1 : Heap) (locs1 : List Loc) (ls1 : Array Slot), va_S (lw_A s) s.heap H1 locs1 → lw_V K s om H1 → lv_has ls1 9 [(5, .int (nI i)), (4, .ref (om + 15)), (3, .ref (om + 14)), (2, .ref (zv_ad om 0 0)), (1, .ref s.heap.size), (0, .ref b)] → W p l e room_1 s m #[Value.ref b] below meth c H1 locs1 (cells + 10) (slots + 200) Q (F0 m 1502 ls1 [])) : W p l e room_1 s m #[Value.ref b] below meth c H locs cells slots Q (F0 m 760 ls []) := by
  obtain ⟨hx, hb, hml, hown, hts, hXX, hbl, hL⟩ := id C
  have hom := hI.1
  obtain ⟨ad, Ek, cap, had, hk, hW⟩ := hI.2.2.1
  refine lv_aload_n hx hb dL_law_760 rfl (lv_at hl 4 rfl) ?_
  refine W.eq (g2 := F0 m 761 ls [.ref (ad 0 0)]) (by rw [had]) ?_
  refine zz_after (A := lw_A s) (pc := 761) rfl (zz_runV (ci := 5) (q0 := (RX2, TX2, 8)) (b := ad 0 0) (As := []) (rest := []) hx hb hml hown hts (c_X2_day l (K := K) (A := lw_X s om) (ad := ad) (E := Ek) (cap := cap) (N := N) (G := G) (L := Ls) hzi.q hk) zw_189 zw_190 zw_191 zw_1 zw_192 zd_X2_day ⟨Nat.le_of_ble_eq_true rfl, Nat.le_of_ble_eq_true rfl⟩ (hI.2.1.narrow lw_XA) hI.nx (zx_ob hW).1 rfl rfl hW hl.1 (Nat.le_of_ble_eq_true rfl) dL_law_761 ⟨Nat.le_trans (Nat.add_le_add_left (Nat.le_of_ble_eq_true rfl) _) hc, Nat.le_trans (Nat.add_le_add_left (Nat.le_of_ble_eq_true rfl) _) hs⟩) hS (fun _ z => z.elim) (fun v H locs hq hF hS => ?_)
  obtain rfl := hq
  have hI := hI.ro hF
  refine W.widen (k := cells + 10) (n := slots + 200) (Nat.add_le_add_left (Nat.le_of_ble_eq_true rfl) _) (Nat.add_le_add_left (Nat.le_of_ble_eq_true rfl) _) ?_
  refine W.eq (g2 := F0 m 764 ls [.int (nI (N 12 0))]) rfl ?_
  refine lv_aload_n hx hb dL_law_764 rfl (lv_at hl 3 rfl) ?_
  refine zz_after (A := lw_A s) (pc := 765) rfl (zz_runV (ci := 6) (q0 := (RX3, TX3, 22)) (b := zv_ad om 0 0) (As := []) (rest := [.int (nI (N 12 0))]) hx hb hml hown hts (c_X3_day l (K := K) (A := lw_M om H) (ad := zv_ad om) (th := th) (N := N) (G := G) (L := Ls) hzi.q) zw_996 zw_997 zw_998 zw_5 zw_999 zd_X3_day ⟨Nat.le_of_ble_eq_true rfl, Nat.le_of_ble_eq_true rfl⟩ (hI.2.1.narrow hI.ma) (fun q h => Or.inr h) (zm_ob hI.2.2.2.1).1 rfl rfl hI.2.2.2.1.wide hl.1 (Nat.le_of_ble_eq_true rfl) dL_law_765 ⟨hc, hs⟩) hS hI.ma (fun v H locs hq hF hS => ?_)
  obtain ⟨rfl, hM⟩ := hq
  have hI := hI.onM hF (zv_M.slim hM)
  refine W.eq (g2 := F0 m 768 ls [.int (nI (N 12 0)), .int (nI (N 12 0))]) rfl ?_
  refine lv_icmp_eq (tgt := 1502) hx hb dL_law_768 (by decide) (fun _ => ?_) (fun h8 => absurd rfl h8)
  exact kk _ _ _ hS ⟨_, _, _, _, _, _, hzi, hg, hI⟩ (lv_sub hl [0, 1, 2, 3, 4, 5] rfl)

set_option maxHeartbeats 4000000 in
set_option maxRecDepth 100000 in
theorem lawc_energy {p : Program} (l : Launch) (hfl : l.stackTraces = false) {e : Env} {s : State} {m : MethodId} {below : List Frame} {meth : Method} {c : Code} {H : Heap} {locs : List Loc} {cells slots : Nat} {Q : State → Prop} {b L : Nat} {xs : Nat → Int32} {ls : Array Slot} {K : zz_G} {om i : Nat} {th : Int32} {vl : Int64} {vd : UInt64} {N : Nat → Nat → Nat} {G : Nat → Nat → Int32} {Ls : Nat → Int64} (C : lw_C p s m c b L xs) (hi : i + 3 ≤ L) (hzi : zi N) (hg : zgi N G) (hS : va_S (lw_A s) s.heap H locs) (hI : zv_I K s om th vl vd N G Ls N G Ls H) (hl : lv_has ls 9 [(5, .int (nI i)), (4, .ref (om + 15)), (3, .ref (om + 14)), (2, .ref (zv_ad om 0 0)), (1, .ref s.heap.size), (0, .ref b)]) (hc : cells + 10 ≤ room_1.cells) (hs : slots + 200 ≤ room_1.slots)
    (kk : ∀ (H1 : Heap) (locs1 : List Loc) (ls1 : Array Slot), va_S (lw_A s) s.heap H1 locs1 → lw_V K s om H1 → lv_has ls1 9 [(5, .int (nI i)), (4, .ref (om + 15)), (3, .ref (om + 14)), (2, .ref (zv_ad om 0 0)), (1, .ref s.heap.size), (0, .ref b)] → W p l e room_1 s m #[Value.ref b] below meth c H1 locs1 (cells + 10) (slots + 200) Q (F0 m 1502 ls1 [])) : W p l e room_1 s m #[Value.ref b] below meth c H locs cells slots Q (F0 m 1303 ls []) := by
  obtain ⟨hx, hb, hml, hown, hts, hXX, hbl, hL⟩ := id C
  have hom := hI.1
  obtain ⟨ad, Ek, cap, had, hk, hW⟩ := hI.2.2.1
  refine lv_aload_n hx hb dL_law_1303 rfl (lv_at hl 4 rfl) ?_
  refine W.eq (g2 := F0 m 1304 ls [.ref (ad 0 0)]) (by rw [had]) ?_
  refine zz_after (A := lw_A s) (pc := 1304) rfl (zz_runV (ci := 5) (q0 := (RX2, TX2, 8)) (b := ad 0 0) (As := []) (rest := []) hx hb hml hown hts (c_X2_energy l (K := K) (A := lw_X s om) (ad := ad) (E := Ek) (cap := cap) (N := N) (G := G) (L := Ls) hzi.q hk) zw_193 zw_194 zw_195 zw_1 zw_196 zd_X2_energy ⟨Nat.le_of_ble_eq_true rfl, Nat.le_of_ble_eq_true rfl⟩ (hI.2.1.narrow lw_XA) hI.nx (zx_ob hW).1 rfl rfl hW hl.1 (Nat.le_of_ble_eq_true rfl) dL_law_1304 ⟨Nat.le_trans (Nat.add_le_add_left (Nat.le_of_ble_eq_true rfl) _) hc, Nat.le_trans (Nat.add_le_add_left (Nat.le_of_ble_eq_true rfl) _) hs⟩) hS (fun _ z => z.elim) (fun v H locs hq hF hS => ?_)
  obtain rfl := hq
  have hI := hI.ro hF
  refine W.widen (k := cells + 10) (n := slots + 200) (Nat.add_le_add_left (Nat.le_of_ble_eq_true rfl) _) (Nat.add_le_add_left (Nat.le_of_ble_eq_true rfl) _) ?_
  refine W.eq (g2 := F0 m 1307 ls [.long (Ls 0)]) rfl ?_
  refine lv_aload_n hx hb dL_law_1307 rfl (lv_at hl 3 rfl) ?_
  refine zz_after (A := lw_A s) (pc := 1308) rfl (zz_runV (ci := 6) (q0 := (RX3, TX3, 22)) (b := zv_ad om 0 0) (As := []) (rest := [.long (Ls 0)]) hx hb hml hown hts (c_X3_energy l (K := K) (A := lw_M om H) (ad := zv_ad om) (th := th) (N := N) (G := G) (L := Ls) hzi.q) zw_1048 zw_1049 zw_1050 zw_5 zw_1051 zd_X3_energy ⟨Nat.le_of_ble_eq_true rfl, Nat.le_of_ble_eq_true rfl⟩ (hI.2.1.narrow hI.ma) (fun q h => Or.inr h) (zm_ob hI.2.2.2.1).1 rfl rfl hI.2.2.2.1.wide hl.1 (Nat.le_of_ble_eq_true rfl) dL_law_1308 ⟨hc, hs⟩) hS hI.ma (fun v H locs hq hF hS => ?_)
  obtain ⟨rfl, hM⟩ := hq
  have hI := hI.onM hF (zv_M.slim hM)
  refine W.eq (g2 := F0 m 1311 ls [.long (Ls 0), .long (Ls 0)]) rfl ?_
  refine W.lcmp hx hb dL_law_1311 ?_
  rw [lg_cmp_self]
  refine lv_if_eq (tgt := 1502) hx hb dL_law_1312 (by decide) (fun _ => ?_) (fun h8 => absurd rfl h8)
  exact kk _ _ _ hS ⟨_, _, _, _, _, _, hzi, hg, hI⟩ (lv_sub hl [0, 1, 2, 3, 4, 5] rfl)

set_option maxHeartbeats 4000000 in
set_option maxRecDepth 100000 in
theorem lawc_discomfort {p : Program} (l : Launch) (hfl : l.stackTraces = false) {e : Env} {s : State} {m : MethodId} {below : List Frame} {meth : Method} {c : Code} {H : Heap} {locs : List Loc} {cells slots : Nat} {Q : State → Prop} {b L : Nat} {xs : Nat → Int32} {ls : Array Slot} {K : zz_G} {om i : Nat} {th : Int32} {vl : Int64} {vd : UInt64} {N : Nat → Nat → Nat} {G : Nat → Nat → Int32} {Ls : Nat → Int64} (C : lw_C p s m c b L xs) (hi : i + 3 ≤ L) (hzi : zi N) (hg : zgi N G) (hS : va_S (lw_A s) s.heap H locs) (hI : zv_I K s om th vl vd N G Ls N G Ls H) (hl : lv_has ls 9 [(5, .int (nI i)), (4, .ref (om + 15)), (3, .ref (om + 14)), (2, .ref (zv_ad om 0 0)), (1, .ref s.heap.size), (0, .ref b)]) (hc : cells + 10 ≤ room_1.cells) (hs : slots + 200 ≤ room_1.slots)
    (kk : ∀ (H1 : Heap) (locs1 : List Loc) (ls1 : Array Slot), va_S (lw_A s) s.heap H1 locs1 → lw_V K s om H1 → lv_has ls1 9 [(5, .int (nI i)), (4, .ref (om + 15)), (3, .ref (om + 14)), (2, .ref (zv_ad om 0 0)), (1, .ref s.heap.size), (0, .ref b)] → W p l e room_1 s m #[Value.ref b] below meth c H1 locs1 (cells + 10) (slots + 200) Q (F0 m 1502 ls1 [])) : W p l e room_1 s m #[Value.ref b] below meth c H locs cells slots Q (F0 m 1317 ls []) := by
  obtain ⟨hx, hb, hml, hown, hts, hXX, hbl, hL⟩ := id C
  have hom := hI.1
  obtain ⟨ad, Ek, cap, had, hk, hW⟩ := hI.2.2.1
  refine lv_aload_n hx hb dL_law_1317 rfl (lv_at hl 4 rfl) ?_
  refine W.eq (g2 := F0 m 1318 ls [.ref (ad 0 0)]) (by rw [had]) ?_
  refine zz_after (A := lw_A s) (pc := 1318) rfl (zz_runV (ci := 5) (q0 := (RX2, TX2, 8)) (b := ad 0 0) (As := []) (rest := []) hx hb hml hown hts (c_X2_discomfort l (K := K) (A := lw_X s om) (ad := ad) (E := Ek) (cap := cap) (N := N) (G := G) (L := Ls) hzi.q hk) zw_197 zw_198 zw_199 zw_1 zw_200 zd_X2_discomfort ⟨Nat.le_of_ble_eq_true rfl, Nat.le_of_ble_eq_true rfl⟩ (hI.2.1.narrow lw_XA) hI.nx (zx_ob hW).1 rfl rfl hW hl.1 (Nat.le_of_ble_eq_true rfl) dL_law_1318 ⟨Nat.le_trans (Nat.add_le_add_left (Nat.le_of_ble_eq_true rfl) _) hc, Nat.le_trans (Nat.add_le_add_left (Nat.le_of_ble_eq_true rfl) _) hs⟩) hS (fun _ z => z.elim) (fun v H locs hq hF hS => ?_)
  obtain rfl := hq
  have hI := hI.ro hF
  refine W.widen (k := cells + 10) (n := slots + 200) (Nat.add_le_add_left (Nat.le_of_ble_eq_true rfl) _) (Nat.add_le_add_left (Nat.le_of_ble_eq_true rfl) _) ?_
  refine W.eq (g2 := F0 m 1321 ls [.long (Ls 1)]) rfl ?_
  refine lv_aload_n hx hb dL_law_1321 rfl (lv_at hl 3 rfl) ?_
  refine zz_after (A := lw_A s) (pc := 1322) rfl (zz_runV (ci := 6) (q0 := (RX3, TX3, 22)) (b := zv_ad om 0 0) (As := []) (rest := [.long (Ls 1)]) hx hb hml hown hts (c_X3_discomfort l (K := K) (A := lw_M om H) (ad := zv_ad om) (th := th) (N := N) (G := G) (L := Ls) hzi.q) zw_1056 zw_1057 zw_1058 zw_5 zw_1059 zd_X3_discomfort ⟨Nat.le_of_ble_eq_true rfl, Nat.le_of_ble_eq_true rfl⟩ (hI.2.1.narrow hI.ma) (fun q h => Or.inr h) (zm_ob hI.2.2.2.1).1 rfl rfl hI.2.2.2.1.wide hl.1 (Nat.le_of_ble_eq_true rfl) dL_law_1322 ⟨hc, hs⟩) hS hI.ma (fun v H locs hq hF hS => ?_)
  obtain ⟨rfl, hM⟩ := hq
  have hI := hI.onM hF (zv_M.slim hM)
  refine W.eq (g2 := F0 m 1325 ls [.long (Ls 1), .long (Ls 1)]) rfl ?_
  refine W.lcmp hx hb dL_law_1325 ?_
  rw [lg_cmp_self]
  refine lv_if_eq (tgt := 1502) hx hb dL_law_1326 (by decide) (fun _ => ?_) (fun h8 => absurd rfl h8)
  exact kk _ _ _ hS ⟨_, _, _, _, _, _, hzi, hg, hI⟩ (lv_sub hl [0, 1, 2, 3, 4, 5] rfl)

set_option maxHeartbeats 4000000 in
set_option maxRecDepth 100000 in
theorem lawc_cleaning {p : Program} (l : Launch) (hfl : l.stackTraces = false) {e : Env} {s : State} {m : MethodId} {below : List Frame} {meth : Method} {c : Code} {H : Heap} {locs : List Loc} {cells slots : Nat} {Q : State → Prop} {b L : Nat} {xs : Nat → Int32} {ls : Array Slot} {K : zz_G} {om i : Nat} {th : Int32} {vl : Int64} {vd : UInt64} {N : Nat → Nat → Nat} {G : Nat → Nat → Int32} {Ls : Nat → Int64} (C : lw_C p s m c b L xs) (hi : i + 3 ≤ L) (hzi : zi N) (hg : zgi N G) (hS : va_S (lw_A s) s.heap H locs) (hI : zv_I K s om th vl vd N G Ls N G Ls H) (hl : lv_has ls 9 [(5, .int (nI i)), (4, .ref (om + 15)), (3, .ref (om + 14)), (2, .ref (zv_ad om 0 0)), (1, .ref s.heap.size), (0, .ref b)]) (hc : cells + 10 ≤ room_1.cells) (hs : slots + 200 ≤ room_1.slots)
    (kk : ∀ (H1 : Heap) (locs1 : List Loc) (ls1 : Array Slot), va_S (lw_A s) s.heap H1 locs1 → lw_V K s om H1 → lv_has ls1 9 [(5, .int (nI i)), (4, .ref (om + 15)), (3, .ref (om + 14)), (2, .ref (zv_ad om 0 0)), (1, .ref s.heap.size), (0, .ref b)] → W p l e room_1 s m #[Value.ref b] below meth c H1 locs1 (cells + 10) (slots + 200) Q (F0 m 1502 ls1 [])) : W p l e room_1 s m #[Value.ref b] below meth c H locs cells slots Q (F0 m 1331 ls []) := by
  obtain ⟨hx, hb, hml, hown, hts, hXX, hbl, hL⟩ := id C
  have hom := hI.1
  obtain ⟨ad, Ek, cap, had, hk, hW⟩ := hI.2.2.1
  refine lv_aload_n hx hb dL_law_1331 rfl (lv_at hl 4 rfl) ?_
  refine W.eq (g2 := F0 m 1332 ls [.ref (ad 0 0)]) (by rw [had]) ?_
  refine zz_after (A := lw_A s) (pc := 1332) rfl (zz_runV (ci := 5) (q0 := (RX2, TX2, 8)) (b := ad 0 0) (As := []) (rest := []) hx hb hml hown hts (c_X2_cleaning l (K := K) (A := lw_X s om) (ad := ad) (E := Ek) (cap := cap) (N := N) (G := G) (L := Ls) hzi.q hk) zw_201 zw_202 zw_203 zw_1 zw_204 zd_X2_cleaning ⟨Nat.le_of_ble_eq_true rfl, Nat.le_of_ble_eq_true rfl⟩ (hI.2.1.narrow lw_XA) hI.nx (zx_ob hW).1 rfl rfl hW hl.1 (Nat.le_of_ble_eq_true rfl) dL_law_1332 ⟨Nat.le_trans (Nat.add_le_add_left (Nat.le_of_ble_eq_true rfl) _) hc, Nat.le_trans (Nat.add_le_add_left (Nat.le_of_ble_eq_true rfl) _) hs⟩) hS (fun _ z => z.elim) (fun v H locs hq hF hS => ?_)
  obtain rfl := hq
  have hI := hI.ro hF
  refine W.widen (k := cells + 10) (n := slots + 200) (Nat.add_le_add_left (Nat.le_of_ble_eq_true rfl) _) (Nat.add_le_add_left (Nat.le_of_ble_eq_true rfl) _) ?_
  refine W.eq (g2 := F0 m 1335 ls [.long (Ls 2)]) rfl ?_
  refine lv_aload_n hx hb dL_law_1335 rfl (lv_at hl 3 rfl) ?_
  refine zz_after (A := lw_A s) (pc := 1336) rfl (zz_runV (ci := 6) (q0 := (RX3, TX3, 22)) (b := zv_ad om 0 0) (As := []) (rest := [.long (Ls 2)]) hx hb hml hown hts (c_X3_cleaning l (K := K) (A := lw_M om H) (ad := zv_ad om) (th := th) (N := N) (G := G) (L := Ls) hzi.q) zw_1060 zw_1061 zw_1062 zw_5 zw_1063 zd_X3_cleaning ⟨Nat.le_of_ble_eq_true rfl, Nat.le_of_ble_eq_true rfl⟩ (hI.2.1.narrow hI.ma) (fun q h => Or.inr h) (zm_ob hI.2.2.2.1).1 rfl rfl hI.2.2.2.1.wide hl.1 (Nat.le_of_ble_eq_true rfl) dL_law_1336 ⟨hc, hs⟩) hS hI.ma (fun v H locs hq hF hS => ?_)
  obtain ⟨rfl, hM⟩ := hq
  have hI := hI.onM hF (zv_M.slim hM)
  refine W.eq (g2 := F0 m 1339 ls [.long (Ls 2), .long (Ls 2)]) rfl ?_
  refine W.lcmp hx hb dL_law_1339 ?_
  rw [lg_cmp_self]
  refine lv_if_eq (tgt := 1502) hx hb dL_law_1340 (by decide) (fun _ => ?_) (fun h8 => absurd rfl h8)
  exact kk _ _ _ hS ⟨_, _, _, _, _, _, hzi, hg, hI⟩ (lv_sub hl [0, 1, 2, 3, 4, 5] rfl)

set_option maxHeartbeats 4000000 in
set_option maxRecDepth 100000 in
theorem lawc_noShows {p : Program} (l : Launch) (hfl : l.stackTraces = false) {e : Env} {s : State} {m : MethodId} {below : List Frame} {meth : Method} {c : Code} {H : Heap} {locs : List Loc} {cells slots : Nat} {Q : State → Prop} {b L : Nat} {xs : Nat → Int32} {ls : Array Slot} {K : zz_G} {om i : Nat} {th : Int32} {vl : Int64} {vd : UInt64} {N : Nat → Nat → Nat} {G : Nat → Nat → Int32} {Ls : Nat → Int64} (C : lw_C p s m c b L xs) (hi : i + 3 ≤ L) (hzi : zi N) (hg : zgi N G) (hS : va_S (lw_A s) s.heap H locs) (hI : zv_I K s om th vl vd N G Ls N G Ls H) (hl : lv_has ls 9 [(5, .int (nI i)), (4, .ref (om + 15)), (3, .ref (om + 14)), (2, .ref (zv_ad om 0 0)), (1, .ref s.heap.size), (0, .ref b)]) (hc : cells + 10 ≤ room_1.cells) (hs : slots + 200 ≤ room_1.slots)
    (kk : ∀ (H1 : Heap) (locs1 : List Loc) (ls1 : Array Slot), va_S (lw_A s) s.heap H1 locs1 → lw_V K s om H1 → lv_has ls1 9 [(5, .int (nI i)), (4, .ref (om + 15)), (3, .ref (om + 14)), (2, .ref (zv_ad om 0 0)), (1, .ref s.heap.size), (0, .ref b)] → W p l e room_1 s m #[Value.ref b] below meth c H1 locs1 (cells + 10) (slots + 200) Q (F0 m 1502 ls1 [])) : W p l e room_1 s m #[Value.ref b] below meth c H locs cells slots Q (F0 m 1345 ls []) := by
  obtain ⟨hx, hb, hml, hown, hts, hXX, hbl, hL⟩ := id C
  have hom := hI.1
  obtain ⟨ad, Ek, cap, had, hk, hW⟩ := hI.2.2.1
  refine lv_aload_n hx hb dL_law_1345 rfl (lv_at hl 4 rfl) ?_
  refine W.eq (g2 := F0 m 1346 ls [.ref (ad 0 0)]) (by rw [had]) ?_
  refine zz_after (A := lw_A s) (pc := 1346) rfl (zz_runV (ci := 5) (q0 := (RX2, TX2, 8)) (b := ad 0 0) (As := []) (rest := []) hx hb hml hown hts (c_X2_noShows l (K := K) (A := lw_X s om) (ad := ad) (E := Ek) (cap := cap) (N := N) (G := G) (L := Ls) hzi.q hk) zw_205 zw_206 zw_207 zw_1 zw_208 zd_X2_noShows ⟨Nat.le_of_ble_eq_true rfl, Nat.le_of_ble_eq_true rfl⟩ (hI.2.1.narrow lw_XA) hI.nx (zx_ob hW).1 rfl rfl hW hl.1 (Nat.le_of_ble_eq_true rfl) dL_law_1346 ⟨Nat.le_trans (Nat.add_le_add_left (Nat.le_of_ble_eq_true rfl) _) hc, Nat.le_trans (Nat.add_le_add_left (Nat.le_of_ble_eq_true rfl) _) hs⟩) hS (fun _ z => z.elim) (fun v H locs hq hF hS => ?_)
  obtain rfl := hq
  have hI := hI.ro hF
  refine W.widen (k := cells + 10) (n := slots + 200) (Nat.add_le_add_left (Nat.le_of_ble_eq_true rfl) _) (Nat.add_le_add_left (Nat.le_of_ble_eq_true rfl) _) ?_
  refine W.eq (g2 := F0 m 1349 ls [.int (nI (N 12 1))]) rfl ?_
  refine lv_aload_n hx hb dL_law_1349 rfl (lv_at hl 3 rfl) ?_
  refine zz_after (A := lw_A s) (pc := 1350) rfl (zz_runV (ci := 6) (q0 := (RX3, TX3, 22)) (b := zv_ad om 0 0) (As := []) (rest := [.int (nI (N 12 1))]) hx hb hml hown hts (c_X3_noShows l (K := K) (A := lw_M om H) (ad := zv_ad om) (th := th) (N := N) (G := G) (L := Ls) hzi.q) zw_1064 zw_1065 zw_1066 zw_5 zw_1067 zd_X3_noShows ⟨Nat.le_of_ble_eq_true rfl, Nat.le_of_ble_eq_true rfl⟩ (hI.2.1.narrow hI.ma) (fun q h => Or.inr h) (zm_ob hI.2.2.2.1).1 rfl rfl hI.2.2.2.1.wide hl.1 (Nat.le_of_ble_eq_true rfl) dL_law_1350 ⟨hc, hs⟩) hS hI.ma (fun v H locs hq hF hS => ?_)
  obtain ⟨rfl, hM⟩ := hq
  have hI := hI.onM hF (zv_M.slim hM)
  refine W.eq (g2 := F0 m 1353 ls [.int (nI (N 12 1)), .int (nI (N 12 1))]) rfl ?_
  refine lv_icmp_eq (tgt := 1502) hx hb dL_law_1353 (by decide) (fun _ => ?_) (fun h8 => absurd rfl h8)
  exact kk _ _ _ hS ⟨_, _, _, _, _, _, hzi, hg, hI⟩ (lv_sub hl [0, 1, 2, 3, 4, 5] rfl)

set_option maxHeartbeats 4000000 in
set_option maxRecDepth 100000 in
theorem lawc_isSound {p : Program} (l : Launch) (hfl : l.stackTraces = false) {e : Env} {s : State} {m : MethodId} {below : List Frame} {meth : Method} {c : Code} {H : Heap} {locs : List Loc} {cells slots : Nat} {Q : State → Prop} {b L : Nat} {xs : Nat → Int32} {ls : Array Slot} {K : zz_G} {om i : Nat} {th : Int32} {vl : Int64} {vd : UInt64} {N : Nat → Nat → Nat} {G : Nat → Nat → Int32} {Ls : Nat → Int64} (C : lw_C p s m c b L xs) (hi : i + 3 ≤ L) (hzi : zi N) (hg : zgi N G) (hS : va_S (lw_A s) s.heap H locs) (hI : zv_I K s om th vl vd N G Ls N G Ls H) (hl : lv_has ls 9 [(5, .int (nI i)), (4, .ref (om + 15)), (3, .ref (om + 14)), (2, .ref (zv_ad om 0 0)), (1, .ref s.heap.size), (0, .ref b)]) (hc : cells + 10 ≤ room_1.cells) (hs : slots + 200 ≤ room_1.slots)
    (kk : ∀ (H1 : Heap) (locs1 : List Loc) (ls1 : Array Slot), va_S (lw_A s) s.heap H1 locs1 → lw_V K s om H1 → lv_has ls1 9 [(5, .int (nI i)), (4, .ref (om + 15)), (3, .ref (om + 14)), (2, .ref (zv_ad om 0 0)), (1, .ref s.heap.size), (0, .ref b)] → W p l e room_1 s m #[Value.ref b] below meth c H1 locs1 (cells + 10) (slots + 200) Q (F0 m 1502 ls1 [])) : W p l e room_1 s m #[Value.ref b] below meth c H locs cells slots Q (F0 m 1489 ls []) := by
  obtain ⟨hx, hb, hml, hown, hts, hXX, hbl, hL⟩ := id C
  have hom := hI.1
  obtain ⟨ad, Ek, cap, had, hk, hW⟩ := hI.2.2.1
  refine lv_aload_n hx hb dL_law_1489 rfl (lv_at hl 4 rfl) ?_
  refine W.eq (g2 := F0 m 1490 ls [.ref (ad 0 0)]) (by rw [had]) ?_
  refine zz_after (A := lw_A s) (pc := 1490) rfl (zz_runV (ci := 5) (q0 := (RX2, TX2, 8)) (b := ad 0 0) (As := []) (rest := []) hx hb hml hown hts (c_X2_isSound l (K := K) (A := lw_X s om) (ad := ad) (E := Ek) (cap := cap) (N := N) (G := G) (L := Ls) hzi hzi.q hk) zw_209 zw_210 zw_211 zw_1 zw_212 zd_X2_isSound ⟨Nat.le_of_ble_eq_true rfl, Nat.le_of_ble_eq_true rfl⟩ (hI.2.1.narrow lw_XA) hI.nx (zx_ob hW).1 rfl rfl hW hl.1 (Nat.le_of_ble_eq_true rfl) dL_law_1490 ⟨Nat.le_trans (Nat.add_le_add_left (Nat.le_of_ble_eq_true rfl) _) hc, Nat.le_trans (Nat.add_le_add_left (Nat.le_of_ble_eq_true rfl) _) hs⟩) hS lw_XA (fun v H locs hq hF hS => ?_)
  obtain ⟨rfl, hW9⟩ := hq
  have hI := hI.onX hF ⟨ad, _, cap, had, hk, hW9⟩
  refine W.widen (k := cells + 10) (n := slots + 200) (Nat.add_le_add_left (Nat.le_of_ble_eq_true rfl) _) (Nat.add_le_add_left (Nat.le_of_ble_eq_true rfl) _) ?_
  refine W.eq (g2 := F0 m 1493 ls [.int (zz_bo True)]) rfl ?_
  refine lv_aload_n hx hb dL_law_1493 rfl (lv_at hl 3 rfl) ?_
  refine zz_after (A := lw_A s) (pc := 1494) rfl (zz_runV (ci := 6) (q0 := (RX3, TX3, 22)) (b := zv_ad om 0 0) (As := []) (rest := [.int (zz_bo True)]) hx hb hml hown hts (c_X3_isSound l (K := K) (A := lw_M om H) (ad := zv_ad om) (th := th) (N := N) (G := G) (L := Ls)) zw_1076 zw_1077 zw_1078 zw_5 zw_1079 zd_X3_isSound ⟨Nat.le_of_ble_eq_true rfl, Nat.le_of_ble_eq_true rfl⟩ (hI.2.1.narrow hI.ma) (fun q h => Or.inr h) (zm_ob hI.2.2.2.1).1 rfl rfl hI.2.2.2.1.wide hl.1 (Nat.le_of_ble_eq_true rfl) dL_law_1494 ⟨hc, hs⟩) hS hI.ma (fun v H locs hq hF hS => ?_)
  obtain ⟨rfl, hM⟩ := hq
  have hI := hI.onM hF (zv_M.slim hM)
  refine W.eq (g2 := F0 m 1497 ls [.int (zz_bo True), .int (zz_bo True)]) rfl ?_
  refine lv_icmp_eq (tgt := 1502) hx hb dL_law_1497 (by decide) (fun _ => ?_) (fun h8 => absurd rfl h8)
  exact kk _ _ _ hS ⟨_, _, _, _, _, _, hzi, hg, hI⟩ (lv_sub hl [0, 1, 2, 3, 4, 5] rfl)
