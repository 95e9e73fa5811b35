/-! by program (gen.py): contracts of methods -/
theorem zd_L_air : yL_air.cls ≠ "java/lang/invoke/MethodHandle" ∧ yL_air.cls ≠ "java/lang/invoke/VarHandle" ∧ (parseMethodDescriptor yL_air.desc).map (fun d => d.parameters.length) = some 3 := by decide +kernel
theorem zd_L_givenShare : yL_givenShare.cls ≠ "java/lang/invoke/MethodHandle" ∧ yL_givenShare.cls ≠ "java/lang/invoke/VarHandle" ∧ (parseMethodDescriptor yL_givenShare.desc).map (fun d => d.parameters.length) = some 2 := by decide +kernel
theorem zd_L_isIn : yL_isIn.cls ≠ "java/lang/invoke/MethodHandle" ∧ yL_isIn.cls ≠ "java/lang/invoke/VarHandle" ∧ (parseMethodDescriptor yL_isIn.desc).map (fun d => d.parameters.length) = some 3 := by decide +kernel
theorem zd_L_isOpen : yL_isOpen.cls ≠ "java/lang/invoke/MethodHandle" ∧ yL_isOpen.cls ≠ "java/lang/invoke/VarHandle" ∧ (parseMethodDescriptor yL_isOpen.desc).map (fun d => d.parameters.length) = some 3 := by decide +kernel
theorem zd_L_leave : yL_leave.cls ≠ "java/lang/invoke/MethodHandle" ∧ yL_leave.cls ≠ "java/lang/invoke/VarHandle" ∧ (parseMethodDescriptor yL_leave.desc).map (fun d => d.parameters.length) = some 3 := by decide +kernel
theorem zd_L_meanStanding : yL_meanStanding.cls ≠ "java/lang/invoke/MethodHandle" ∧ yL_meanStanding.cls ≠ "java/lang/invoke/VarHandle" ∧ (parseMethodDescriptor yL_meanStanding.desc).map (fun d => d.parameters.length) = some 2 := by decide +kernel
theorem zd_L_pass : yL_pass.cls ≠ "java/lang/invoke/MethodHandle" ∧ yL_pass.cls ≠ "java/lang/invoke/VarHandle" ∧ (parseMethodDescriptor yL_pass.desc).map (fun d => d.parameters.length) = some 3 := by decide +kernel
theorem zd_L_seatOf : yL_seatOf.cls ≠ "java/lang/invoke/MethodHandle" ∧ yL_seatOf.cls ≠ "java/lang/invoke/VarHandle" ∧ (parseMethodDescriptor yL_seatOf.desc).map (fun d => d.parameters.length) = some 3 := by decide +kernel
theorem zd_L_seated : yL_seated.cls ≠ "java/lang/invoke/MethodHandle" ∧ yL_seated.cls ≠ "java/lang/invoke/VarHandle" ∧ (parseMethodDescriptor yL_seated.desc).map (fun d => d.parameters.length) = some 4 := by decide +kernel
theorem zd_L_warmth : yL_warmth.cls ≠ "java/lang/invoke/MethodHandle" ∧ yL_warmth.cls ≠ "java/lang/invoke/VarHandle" ∧ (parseMethodDescriptor yL_warmth.desc).map (fun d => d.parameters.length) = some 3 := by decide +kernel
theorem zd_X3_air : yX3_air.cls ≠ "java/lang/invoke/MethodHandle" ∧ yX3_air.cls ≠ "java/lang/invoke/VarHandle" ∧ (parseMethodDescriptor yX3_air.desc).map (fun d => d.parameters.length) = some 1 := by decide +kernel
theorem zd_X3_givenShare : yX3_givenShare.cls ≠ "java/lang/invoke/MethodHandle" ∧ yX3_givenShare.cls ≠ "java/lang/invoke/VarHandle" ∧ (parseMethodDescriptor yX3_givenShare.desc).map (fun d => d.parameters.length) = some 0 := by decide +kernel
theorem zd_X3_isIn : yX3_isIn.cls ≠ "java/lang/invoke/MethodHandle" ∧ yX3_isIn.cls ≠ "java/lang/invoke/VarHandle" ∧ (parseMethodDescriptor yX3_isIn.desc).map (fun d => d.parameters.length) = some 1 := by decide +kernel
theorem zd_X3_isOpen : yX3_isOpen.cls ≠ "java/lang/invoke/MethodHandle" ∧ yX3_isOpen.cls ≠ "java/lang/invoke/VarHandle" ∧ (parseMethodDescriptor yX3_isOpen.desc).map (fun d => d.parameters.length) = some 1 := by decide +kernel
theorem zd_X3_leave : yX3_leave.cls ≠ "java/lang/invoke/MethodHandle" ∧ yX3_leave.cls ≠ "java/lang/invoke/VarHandle" ∧ (parseMethodDescriptor yX3_leave.desc).map (fun d => d.parameters.length) = some 1 := by decide +kernel
theorem zd_X3_meanStanding : yX3_meanStanding.cls ≠ "java/lang/invoke/MethodHandle" ∧ yX3_meanStanding.cls ≠ "java/lang/invoke/VarHandle" ∧ (parseMethodDescriptor yX3_meanStanding.desc).map (fun d => d.parameters.length) = some 0 := by decide +kernel
theorem zd_X3_pass : yX3_pass.cls ≠ "java/lang/invoke/MethodHandle" ∧ yX3_pass.cls ≠ "java/lang/invoke/VarHandle" ∧ (parseMethodDescriptor yX3_pass.desc).map (fun d => d.parameters.length) = some 1 := by decide +kernel
theorem zd_X3_seatOf : yX3_seatOf.cls ≠ "java/lang/invoke/MethodHandle" ∧ yX3_seatOf.cls ≠ "java/lang/invoke/VarHandle" ∧ (parseMethodDescriptor yX3_seatOf.desc).map (fun d => d.parameters.length) = some 1 := by decide +kernel
theorem zd_X3_seated : yX3_seated.cls ≠ "java/lang/invoke/MethodHandle" ∧ yX3_seated.cls ≠ "java/lang/invoke/VarHandle" ∧ (parseMethodDescriptor yX3_seated.desc).map (fun d => d.parameters.length) = some 2 := by decide +kernel
theorem zd_X3_warmth : yX3_warmth.cls ≠ "java/lang/invoke/MethodHandle" ∧ yX3_warmth.cls ≠ "java/lang/invoke/VarHandle" ∧ (parseMethodDescriptor yX3_warmth.desc).map (fun d => d.parameters.length) = some 1 := by decide +kernel
set_option maxHeartbeats 4000000 in
set_option maxRecDepth 100000 in
theorem lawc_leave {p : Program} (l : Launch) (hfl : l.stackTraces = false) {e : Env} {s : State} {m : MethodId} {below : List Frame} {meth : Method} {c : Code} {H : Heap} {locs : List Loc} {cells slots : Nat} {Q : State → Prop} {b L : Nat} {xs : Nat → Int32} {ls : Array Slot} {K : zz_G} {om i : Nat} {th : Int32} {vl : Int64} {vd : UInt64} {N : Nat → Nat → Nat} {G : Nat → Nat → Int32} {Ls : Nat → Int64} (C : lw_C p s m c b L xs) (hi : i + 3 ≤ L) (hzi : zi N) (hg : zgi N G) (hS : va_S (lw_A s) s.heap H locs) (hI : zv_I K s om th vl vd N G Ls N G Ls H) (hl : lv_has ls 9 [(5, .int (nI i)), (4, .ref (om + 15)), (3, .ref (om + 14)), (2, .ref (zv_ad om 0 0)), (1, .ref s.heap.size), (0, .ref b)]) (hc : cells + 10 ≤ room_1.cells) (hs : slots + 200 ≤ room_1.slots)
    (kk : ∀ (H1 : Heap) (locs1 : List Loc) (ls1 : Array Slot), va_S (lw_A s) s.heap H1 locs1 → lw_V K s om H1 → lv_has ls1 9 [(5, .int (nI i)), (4, .ref (om + 15)), (3, .ref (om + 14)), (2, .ref (zv_ad om 0 0)), (1, .ref s.heap.size), (0, .ref b)] → W p l e room_1 s m #[Value.ref b] below meth c H1 locs1 (cells + 10) (slots + 200) Q (F0 m 1502 ls1 [])) : W p l e room_1 s m #[Value.ref b] below meth c H locs cells slots Q (F0 m 829 ls []) := by
  obtain ⟨hx, hb, hml, hown, hts, hXX, hbl, hL⟩ := id C
  have hom := hI.1
  refine lv_aload_n hx hb dL_law_829 rfl (lv_at hl 4 rfl) ?_
  refine lv_aload_n hx hb dL_law_830 rfl (lv_at hl 5 rfl) ?_
  refine lv_iload hx hb dL_law_831 (lv_at hl 0 rfl) ?_
  refine zz_con 1 hx hb dL_law_833 (by decide) ?_
  refine zz_add hx hb dL_law_834 ?_
  refine lw_sld C hS (j := i + 1) (by omega) dL_law_835 ?_
  refine lv_aload_n hx hb dL_law_836 rfl (lv_at hl 2 rfl) ?_
  refine zz_after (A := lw_A s) (pc := 837) rfl (zz_runSH (As := [.ref s.heap.size, .int (xs (i + 1)), .ref (om + 14)]) (rest := []) hx hb hml hown hts (c_L_leave l hfl (K := K) (A := lw_L s om (om + 14)) (Ax := lw_X s om) (ox := s.heap.size) (ol := om + 14) (v0 := vl) (N := N) (G := G) (L := Ls) hzi (xs (i + 1)) (fun q h => Or.inl h) (Or.inr rfl) (fun z => z.2 ⟨by omega, by omega⟩)) zw_683 zw_684 zw_0 zw_685 zd_L_leave ⟨Nat.le_of_ble_eq_true rfl, Nat.le_of_ble_eq_true rfl⟩ (hI.2.1.narrow (hI.la (Or.inl rfl))) (hI.nl _) ⟨hI.nx, hI.2.2.1, hI.2.2.2.2.1⟩ hl.1 (Nat.le_of_ble_eq_true rfl) dL_law_837 ⟨Nat.le_trans (Nat.add_le_add_left (Nat.le_of_ble_eq_true rfl) _) hc, Nat.le_trans (Nat.add_le_add_left (Nat.le_of_ble_eq_true rfl) _) hs⟩) hS (hI.la (Or.inl rfl)) (fun v H locs hq hF hS => ?_)
  obtain ⟨rfl, hX1, v1, hv1, hve⟩ := hq
  have hI := hI.onL hF hX1 hv1
  refine W.widen (k := cells + 10) (n := slots + 200) (Nat.add_le_add_left (Nat.le_of_ble_eq_true rfl) _) (Nat.add_le_add_left (Nat.le_of_ble_eq_true rfl) _) ?_
  refine W.eq (g2 := F0 m 840 ls [.int (nI ((zs_leave N (xs (i + 1))).1))]) rfl ?_
  refine lv_istore (lv' := [(6, .int (nI ((zs_leave N (xs (i + 1))).1))), (5, .int (nI i)), (4, .ref (om + 15)), (3, .ref (om + 14)), (2, .ref (zv_ad om 0 0)), (1, .ref s.heap.size), (0, .ref b)]) hx hb dL_law_840 hl (Nat.le_of_ble_eq_true rfl) rfl (fun ls hl => ?_)
  refine lv_aload_n hx hb dL_law_842 rfl (lv_at hl 4 rfl) ?_
  refine lv_aload_n hx hb dL_law_843 rfl (lv_at hl 6 rfl) ?_
  refine lv_iload hx hb dL_law_844 (lv_at hl 1 rfl) ?_
  refine zz_con 1 hx hb dL_law_846 (by decide) ?_
  refine zz_add hx hb dL_law_847 ?_
  refine lw_sld C hS (j := i + 1) (by omega) dL_law_848 ?_
  refine zz_after (A := lw_A s) (pc := 849) rfl (zz_runV (ci := 6) (q0 := (RX3, TX3, 22)) (b := zv_ad om 0 0) (As := [.int (xs (i + 1))]) (rest := []) hx hb hml hown hts (c_X3_leave l (K := K) (A := lw_M om H) (ad := zv_ad om) (th := th) (N := N) (G := G) (L := Ls) hzi.q (xs (i + 1))) zw_1004 zw_1005 zw_1006 zw_5 zw_1007 zd_X3_leave ⟨Nat.le_of_ble_eq_true rfl, Nat.le_of_ble_eq_true rfl⟩ (hI.2.1.narrow hI.ma) (fun q h => Or.inr h) (zm_ob hI.2.2.2.1).1 rfl rfl hI.2.2.2.1.wide hl.1 (Nat.le_of_ble_eq_true rfl) dL_law_849 ⟨hc, hs⟩) hS hI.ma (fun v H locs hq hF hS => ?_)
  obtain ⟨rfl, hM⟩ := hq
  have hI := hI.onM hF (zv_M.slim hM)
  refine W.eq (g2 := F0 m 852 ls [.int ((zs_leave N (xs (i + 1))).2.1)]) rfl ?_
  refine lv_istore (lv' := [(7, .int ((zs_leave N (xs (i + 1))).2.1)), (6, .int (nI ((zs_leave N (xs (i + 1))).1))), (5, .int (nI i)), (4, .ref (om + 15)), (3, .ref (om + 14)), (2, .ref (zv_ad om 0 0)), (1, .ref s.heap.size), (0, .ref b)]) hx hb dL_law_852 hl (Nat.le_of_ble_eq_true rfl) rfl (fun ls hl => ?_)
  refine lv_aload_n hx hb dL_law_854 rfl (lv_at hl 5 rfl) ?_
  refine zz_after (A := lw_A s) (pc := 855) rfl (zz_runV (ci := 6) (q0 := (RX3, TX3, 22)) (b := zv_ad om 0 0) (As := []) (rest := []) hx hb hml hown hts (c_X3_thrown l (K := K) (A := lw_M om H) (ad := zv_ad om) (th := nI ((zs_leave N (xs (i + 1))).1))) zw_876 zw_877 zw_878 zw_5 zw_879 zd_X3_thrown ⟨Nat.le_of_ble_eq_true rfl, Nat.le_of_ble_eq_true rfl⟩ (hI.2.1.narrow hI.ma) (fun q h => Or.inr h) (zm_ob hI.2.2.2.1).1 rfl rfl hI.2.2.2.1.wide hl.1 (Nat.le_of_ble_eq_true rfl) dL_law_855 ⟨hc, hs⟩) hS (fun _ z => z.elim) (fun v H locs hq hF hS => ?_)
  obtain rfl := hq
  have hI := hI.ro hF
  refine W.eq (g2 := F0 m 858 ls [.int (nI ((zs_leave N (xs (i + 1))).1))]) rfl ?_
  refine lv_iload hx hb dL_law_858 (lv_at hl 1 rfl) ?_
  refine lv_icmp_eq (tgt := 865) hx hb dL_law_860 (by decide) (fun _ => ?_) (fun h9 => absurd rfl h9)
  refine lv_iload hx hb dL_law_865 (lv_at hl 1 rfl) ?_
  refine lv_if_ne (tgt := 882) hx hb dL_law_867 (by decide) (fun h9 => ?_) (fun h9 => ?_)
  · skip
    refine lv_goto (tgt := 1502) hx hb dL_law_882 (by decide) ?_
    exact kk _ _ _ hS ⟨_, _, _, _, _, _, ki_leave hzi _, zgi_co kg_leave hg, hI⟩ (lv_sub hl [2, 3, 4, 5, 6, 7] rfl)
  · skip
    have e9 := hve h9
    obtain ⟨f9, hat9, hf9⟩ := hI.2.2.2.2.1
    refine lv_aload_n hx hb dL_law_870 rfl (lv_at hl 4 rfl) ?_
    refine zz_con 0 hx hb dL_law_871 (by decide) ?_
    refine zz_lald (y := v1) hx hb hI.2.1.K hat9 (vp_in_nI (by decide) (by decide)) dL_law_872 (by rw [nI_clamp (by decide)]; exact hf9) ?_
    rw [e9]
    refine lv_iload hx hb dL_law_873 (lv_at hl 0 rfl) ?_
    refine lv_i2l hx hb dL_law_875 rfl ?_
    refine W.lcmp hx hb dL_law_876 ?_
    rw [lg_cmp_self]
    refine lv_if_eq (tgt := 882) hx hb dL_law_877 (by decide) (fun _ => ?_) (fun h8 => absurd rfl h8)
    refine lv_goto (tgt := 1502) hx hb dL_law_882 (by decide) ?_
    exact kk _ _ _ hS ⟨_, _, _, _, _, _, ki_leave hzi _, zgi_co kg_leave hg, hI⟩ (lv_sub hl [2, 3, 4, 5, 6, 7] rfl)

set_option maxHeartbeats 4000000 in
set_option maxRecDepth 100000 in
theorem lawc_seatOf {p : Program} (l : Launch) (hfl : l.stackTraces = false) {e : Env} {s : State} {m : MethodId} {below : List Frame} {meth : Method} {c : Code} {H : Heap} {locs : List Loc} {cells slots : Nat} {Q : State → Prop} {b L : Nat} {xs : Nat → Int32} {ls : Array Slot} {K : zz_G} {om i : Nat} {th : Int32} {vl : Int64} {vd : UInt64} {N : Nat → Nat → Nat} {G : Nat → Nat → Int32} {Ls : Nat → Int64} (C : lw_C p s m c b L xs) (hi : i + 3 ≤ L) (hzi : zi N) (hg : zgi N G) (hS : va_S (lw_A s) s.heap H locs) (hI : zv_I K s om th vl vd N G Ls N G Ls H) (hl : lv_has ls 9 [(5, .int (nI i)), (4, .ref (om + 15)), (3, .ref (om + 14)), (2, .ref (zv_ad om 0 0)), (1, .ref s.heap.size), (0, .ref b)]) (hc : cells + 10 ≤ room_1.cells) (hs : slots + 200 ≤ room_1.slots)
    (kk : ∀ (H1 : Heap) (locs1 : List Loc) (ls1 : Array Slot), va_S (lw_A s) s.heap H1 locs1 → lw_V K s om H1 → lv_has ls1 9 [(5, .int (nI i)), (4, .ref (om + 15)), (3, .ref (om + 14)), (2, .ref (zv_ad om 0 0)), (1, .ref s.heap.size), (0, .ref b)] → W p l e room_1 s m #[Value.ref b] below meth c H1 locs1 (cells + 10) (slots + 200) Q (F0 m 1502 ls1 [])) : W p l e room_1 s m #[Value.ref b] below meth c H locs cells slots Q (F0 m 885 ls []) := by
  obtain ⟨hx, hb, hml, hown, hts, hXX, hbl, hL⟩ := id C
  have hom := hI.1
  refine lv_aload_n hx hb dL_law_885 rfl (lv_at hl 4 rfl) ?_
  refine lv_aload_n hx hb dL_law_886 rfl (lv_at hl 5 rfl) ?_
  refine lv_iload hx hb dL_law_887 (lv_at hl 0 rfl) ?_
  refine zz_con 1 hx hb dL_law_889 (by decide) ?_
  refine zz_add hx hb dL_law_890 ?_
  refine lw_sld C hS (j := i + 1) (by omega) dL_law_891 ?_
  refine lv_aload_n hx hb dL_law_892 rfl (lv_at hl 2 rfl) ?_
  refine zz_after (A := lw_A s) (pc := 893) rfl (zz_runSH (As := [.ref s.heap.size, .int (xs (i + 1)), .ref (om + 14)]) (rest := []) hx hb hml hown hts (c_L_seatOf l hfl (K := K) (A := lw_L s om (om + 14)) (Ax := lw_X s om) (ox := s.heap.size) (ol := om + 14) (v0 := vl) (N := N) (G := G) (L := Ls) hzi (xs (i + 1)) (fun q h => Or.inl h) (Or.inr rfl) (fun z => z.2 ⟨by omega, by omega⟩)) zw_695 zw_696 zw_0 zw_697 zd_L_seatOf ⟨Nat.le_of_ble_eq_true rfl, Nat.le_of_ble_eq_true rfl⟩ (hI.2.1.narrow (hI.la (Or.inl rfl))) (hI.nl _) ⟨hI.nx, hI.2.2.1, hI.2.2.2.2.1⟩ hl.1 (Nat.le_of_ble_eq_true rfl) dL_law_893 ⟨Nat.le_trans (Nat.add_le_add_left (Nat.le_of_ble_eq_true rfl) _) hc, Nat.le_trans (Nat.add_le_add_left (Nat.le_of_ble_eq_true rfl) _) hs⟩) hS (hI.la (Or.inl rfl)) (fun v H locs hq hF hS => ?_)
  obtain ⟨rfl, hX1, v1, hv1, hve⟩ := hq
  have hI := hI.onL hF hX1 hv1
  refine W.widen (k := cells + 10) (n := slots + 200) (Nat.add_le_add_left (Nat.le_of_ble_eq_true rfl) _) (Nat.add_le_add_left (Nat.le_of_ble_eq_true rfl) _) ?_
  refine W.eq (g2 := F0 m 896 ls [.int (nI ((zs_seatOf N (xs (i + 1))).1))]) rfl ?_
  refine lv_istore (lv' := [(6, .int (nI ((zs_seatOf N (xs (i + 1))).1))), (5, .int (nI i)), (4, .ref (om + 15)), (3, .ref (om + 14)), (2, .ref (zv_ad om 0 0)), (1, .ref s.heap.size), (0, .ref b)]) hx hb dL_law_896 hl (Nat.le_of_ble_eq_true rfl) rfl (fun ls hl => ?_)
  refine lv_aload_n hx hb dL_law_898 rfl (lv_at hl 4 rfl) ?_
  refine lv_aload_n hx hb dL_law_899 rfl (lv_at hl 6 rfl) ?_
  refine lv_iload hx hb dL_law_900 (lv_at hl 1 rfl) ?_
  refine zz_con 1 hx hb dL_law_902 (by decide) ?_
  refine zz_add hx hb dL_law_903 ?_
  refine lw_sld C hS (j := i + 1) (by omega) dL_law_904 ?_
  refine zz_after (A := lw_A s) (pc := 905) rfl (zz_runV (ci := 6) (q0 := (RX3, TX3, 22)) (b := zv_ad om 0 0) (As := [.int (xs (i + 1))]) (rest := []) hx hb hml hown hts (c_X3_seatOf l (K := K) (A := lw_M om H) (ad := zv_ad om) (th := th) (N := N) (G := G) (L := Ls) hzi.q (xs (i + 1))) zw_1008 zw_1009 zw_1010 zw_5 zw_1011 zd_X3_seatOf ⟨Nat.le_of_ble_eq_true rfl, Nat.le_of_ble_eq_true rfl⟩ (hI.2.1.narrow hI.ma) (fun q h => Or.inr h) (zm_ob hI.2.2.2.1).1 rfl rfl hI.2.2.2.1.wide hl.1 (Nat.le_of_ble_eq_true rfl) dL_law_905 ⟨hc, hs⟩) hS hI.ma (fun v H locs hq hF hS => ?_)
  obtain ⟨rfl, hM⟩ := hq
  have hI := hI.onM hF (zv_M.slim hM)
  refine W.eq (g2 := F0 m 908 ls [.int ((zs_seatOf N (xs (i + 1))).2)]) rfl ?_
  refine lv_istore (lv' := [(7, .int ((zs_seatOf N (xs (i + 1))).2)), (6, .int (nI ((zs_seatOf N (xs (i + 1))).1))), (5, .int (nI i)), (4, .ref (om + 15)), (3, .ref (om + 14)), (2, .ref (zv_ad om 0 0)), (1, .ref s.heap.size), (0, .ref b)]) hx hb dL_law_908 hl (Nat.le_of_ble_eq_true rfl) rfl (fun ls hl => ?_)
  refine lv_aload_n hx hb dL_law_910 rfl (lv_at hl 5 rfl) ?_
  refine zz_after (A := lw_A s) (pc := 911) rfl (zz_runV (ci := 6) (q0 := (RX3, TX3, 22)) (b := zv_ad om 0 0) (As := []) (rest := []) hx hb hml hown hts (c_X3_thrown l (K := K) (A := lw_M om H) (ad := zv_ad om) (th := nI ((zs_seatOf N (xs (i + 1))).1))) zw_876 zw_877 zw_878 zw_5 zw_879 zd_X3_thrown ⟨Nat.le_of_ble_eq_true rfl, Nat.le_of_ble_eq_true rfl⟩ (hI.2.1.narrow hI.ma) (fun q h => Or.inr h) (zm_ob hI.2.2.2.1).1 rfl rfl hI.2.2.2.1.wide hl.1 (Nat.le_of_ble_eq_true rfl) dL_law_911 ⟨hc, hs⟩) hS (fun _ z => z.elim) (fun v H locs hq hF hS => ?_)
  obtain rfl := hq
  have hI := hI.ro hF
  refine W.eq (g2 := F0 m 914 ls [.int (nI ((zs_seatOf N (xs (i + 1))).1))]) rfl ?_
  refine lv_iload hx hb dL_law_914 (lv_at hl 1 rfl) ?_
  refine lv_icmp_eq (tgt := 921) hx hb dL_law_916 (by decide) (fun _ => ?_) (fun h9 => absurd rfl h9)
  refine lv_iload hx hb dL_law_921 (lv_at hl 1 rfl) ?_
  refine lv_if_ne (tgt := 938) hx hb dL_law_923 (by decide) (fun h9 => ?_) (fun h9 => ?_)
  · skip
    refine lv_goto (tgt := 1502) hx hb dL_law_938 (by decide) ?_
    exact kk _ _ _ hS ⟨_, _, _, _, _, _, hzi, hg, hI⟩ (lv_sub hl [2, 3, 4, 5, 6, 7] rfl)
  · skip
    have e9 := hve h9
    obtain ⟨f9, hat9, hf9⟩ := hI.2.2.2.2.1
    refine lv_aload_n hx hb dL_law_926 rfl (lv_at hl 4 rfl) ?_
    refine zz_con 0 hx hb dL_law_927 (by decide) ?_
    refine zz_lald (y := v1) hx hb hI.2.1.K hat9 (vp_in_nI (by decide) (by decide)) dL_law_928 (by rw [nI_clamp (by decide)]; exact hf9) ?_
    rw [e9]
    refine lv_iload hx hb dL_law_929 (lv_at hl 0 rfl) ?_
    refine lv_i2l hx hb dL_law_931 rfl ?_
    refine W.lcmp hx hb dL_law_932 ?_
    rw [lg_cmp_self]
    refine lv_if_eq (tgt := 938) hx hb dL_law_933 (by decide) (fun _ => ?_) (fun h8 => absurd rfl h8)
    refine lv_goto (tgt := 1502) hx hb dL_law_938 (by decide) ?_
    exact kk _ _ _ hS ⟨_, _, _, _, _, _, hzi, hg, hI⟩ (lv_sub hl [2, 3, 4, 5, 6, 7] rfl)

set_option maxHeartbeats 4000000 in
set_option maxRecDepth 100000 in
theorem lawc_isIn {p : Program} (l : Launch) (hfl : l.stackTraces = false) {e : Env} {s : State} {m : MethodId} {below : List Frame} {meth : Method} {c : Code} {H : Heap} {locs : List Loc} {cells slots : Nat} {Q : State → Prop} {b L : Nat} {xs : Nat → Int32} {ls : Array Slot} {K : zz_G} {om i : Nat} {th : Int32} {vl : Int64} {vd : UInt64} {N : Nat → Nat → Nat} {G : Nat → Nat → Int32} {Ls : Nat → Int64} (C : lw_C p s m c b L xs) (hi : i + 3 ≤ L) (hzi : zi N) (hg : zgi N G) (hS : va_S (lw_A s) s.heap H locs) (hI : zv_I K s om th vl vd N G Ls N G Ls H) (hl : lv_has ls 9 [(5, .int (nI i)), (4, .ref (om + 15)), (3, .ref (om + 14)), (2, .ref (zv_ad om 0 0)), (1, .ref s.heap.size), (0, .ref b)]) (hc : cells + 10 ≤ room_1.cells) (hs : slots + 200 ≤ room_1.slots)
    (kk : ∀ (H1 : Heap) (locs1 : List Loc) (ls1 : Array Slot), va_S (lw_A s) s.heap H1 locs1 → lw_V K s om H1 → lv_has ls1 9 [(5, .int (nI i)), (4, .ref (om + 15)), (3, .ref (om + 14)), (2, .ref (zv_ad om 0 0)), (1, .ref s.heap.size), (0, .ref b)] → W p l e room_1 s m #[Value.ref b] below meth c H1 locs1 (cells + 10) (slots + 200) Q (F0 m 1502 ls1 [])) : W p l e room_1 s m #[Value.ref b] below meth c H locs cells slots Q (F0 m 941 ls []) := by
  obtain ⟨hx, hb, hml, hown, hts, hXX, hbl, hL⟩ := id C
  have hom := hI.1
  refine lv_aload_n hx hb dL_law_941 rfl (lv_at hl 4 rfl) ?_
  refine lv_aload_n hx hb dL_law_942 rfl (lv_at hl 5 rfl) ?_
  refine lv_iload hx hb dL_law_943 (lv_at hl 0 rfl) ?_
  refine zz_con 1 hx hb dL_law_945 (by decide) ?_
  refine zz_add hx hb dL_law_946 ?_
  refine lw_sld C hS (j := i + 1) (by omega) dL_law_947 ?_
  refine lv_aload_n hx hb dL_law_948 rfl (lv_at hl 2 rfl) ?_
  refine zz_after (A := lw_A s) (pc := 949) rfl (zz_runSH (As := [.ref s.heap.size, .int (xs (i + 1)), .ref (om + 14)]) (rest := []) hx hb hml hown hts (c_L_isIn l hfl (K := K) (A := lw_L s om (om + 14)) (Ax := lw_X s om) (ox := s.heap.size) (ol := om + 14) (v0 := vl) (N := N) (G := G) (L := Ls) hzi (xs (i + 1)) (fun q h => Or.inl h) (Or.inr rfl) (fun z => z.2 ⟨by omega, by omega⟩)) zw_702 zw_703 zw_0 zw_704 zd_L_isIn ⟨Nat.le_of_ble_eq_true rfl, Nat.le_of_ble_eq_true rfl⟩ (hI.2.1.narrow (hI.la (Or.inl rfl))) (hI.nl _) ⟨hI.nx, hI.2.2.1, hI.2.2.2.2.1⟩ hl.1 (Nat.le_of_ble_eq_true rfl) dL_law_949 ⟨Nat.le_trans (Nat.add_le_add_left (Nat.le_of_ble_eq_true rfl) _) hc, Nat.le_trans (Nat.add_le_add_left (Nat.le_of_ble_eq_true rfl) _) hs⟩) hS (hI.la (Or.inl rfl)) (fun v H locs hq hF hS => ?_)
  obtain ⟨rfl, hX1, v1, hv1, hve⟩ := hq
  have hI := hI.onL hF hX1 hv1
  refine W.widen (k := cells + 10) (n := slots + 200) (Nat.add_le_add_left (Nat.le_of_ble_eq_true rfl) _) (Nat.add_le_add_left (Nat.le_of_ble_eq_true rfl) _) ?_
  refine W.eq (g2 := F0 m 952 ls [.int (nI (zs_isIn N (xs (i + 1))))]) rfl ?_
  refine lv_istore (lv' := [(6, .int (nI (zs_isIn N (xs (i + 1))))), (5, .int (nI i)), (4, .ref (om + 15)), (3, .ref (om + 14)), (2, .ref (zv_ad om 0 0)), (1, .ref s.heap.size), (0, .ref b)]) hx hb dL_law_952 hl (Nat.le_of_ble_eq_true rfl) rfl (fun ls hl => ?_)
  refine lv_aload_n hx hb dL_law_954 rfl (lv_at hl 4 rfl) ?_
  refine lv_aload_n hx hb dL_law_955 rfl (lv_at hl 6 rfl) ?_
  refine lv_iload hx hb dL_law_956 (lv_at hl 1 rfl) ?_
  refine zz_con 1 hx hb dL_law_958 (by decide) ?_
  refine zz_add hx hb dL_law_959 ?_
  refine lw_sld C hS (j := i + 1) (by omega) dL_law_960 ?_
  refine zz_after (A := lw_A s) (pc := 961) rfl (zz_runV (ci := 6) (q0 := (RX3, TX3, 22)) (b := zv_ad om 0 0) (As := [.int (xs (i + 1))]) (rest := []) hx hb hml hown hts (c_X3_isIn l (K := K) (A := lw_M om H) (ad := zv_ad om) (th := th) (N := N) (G := G) (L := Ls) hzi.q (xs (i + 1))) zw_1012 zw_1013 zw_1014 zw_5 zw_1015 zd_X3_isIn ⟨Nat.le_of_ble_eq_true rfl, Nat.le_of_ble_eq_true rfl⟩ (hI.2.1.narrow hI.ma) (fun q h => Or.inr h) (zm_ob hI.2.2.2.1).1 rfl rfl hI.2.2.2.1.wide hl.1 (Nat.le_of_ble_eq_true rfl) dL_law_961 ⟨hc, hs⟩) hS hI.ma (fun v H locs hq hF hS => ?_)
  obtain ⟨rfl, hM⟩ := hq
  have hI := hI.onM hF (zv_M.slim hM)
  refine W.eq (g2 := F0 m 964 ls [.int (zz_bo (zp_isIn N (xs (i + 1))))]) rfl ?_
  refine lv_istore (lv' := [(7, .int (zz_bo (zp_isIn N (xs (i + 1))))), (6, .int (nI (zs_isIn N (xs (i + 1))))), (5, .int (nI i)), (4, .ref (om + 15)), (3, .ref (om + 14)), (2, .ref (zv_ad om 0 0)), (1, .ref s.heap.size), (0, .ref b)]) hx hb dL_law_964 hl (Nat.le_of_ble_eq_true rfl) rfl (fun ls hl => ?_)
  refine lv_aload_n hx hb dL_law_966 rfl (lv_at hl 5 rfl) ?_
  refine zz_after (A := lw_A s) (pc := 967) rfl (zz_runV (ci := 6) (q0 := (RX3, TX3, 22)) (b := zv_ad om 0 0) (As := []) (rest := []) hx hb hml hown hts (c_X3_thrown l (K := K) (A := lw_M om H) (ad := zv_ad om) (th := nI (zs_isIn N (xs (i + 1))))) zw_876 zw_877 zw_878 zw_5 zw_879 zd_X3_thrown ⟨Nat.le_of_ble_eq_true rfl, Nat.le_of_ble_eq_true rfl⟩ (hI.2.1.narrow hI.ma) (fun q h => Or.inr h) (zm_ob hI.2.2.2.1).1 rfl rfl hI.2.2.2.1.wide hl.1 (Nat.le_of_ble_eq_true rfl) dL_law_967 ⟨hc, hs⟩) hS (fun _ z => z.elim) (fun v H locs hq hF hS => ?_)
  obtain rfl := hq
  have hI := hI.ro hF
  refine W.eq (g2 := F0 m 970 ls [.int (nI (zs_isIn N (xs (i + 1))))]) rfl ?_
  refine lv_iload hx hb dL_law_970 (lv_at hl 1 rfl) ?_
  refine lv_icmp_eq (tgt := 977) hx hb dL_law_972 (by decide) (fun _ => ?_) (fun h9 => absurd rfl h9)
  refine lv_iload hx hb dL_law_977 (lv_at hl 1 rfl) ?_
  refine lv_if_ne (tgt := 1001) hx hb dL_law_979 (by decide) (fun h9 => ?_) (fun h9 => ?_)
  · skip
    refine lv_goto (tgt := 1502) hx hb dL_law_1001 (by decide) ?_
    exact kk _ _ _ hS ⟨_, _, _, _, _, _, hzi, hg, hI⟩ (lv_sub hl [2, 3, 4, 5, 6, 7] rfl)
  · skip
    have e9 := hve h9
    obtain ⟨f9, hat9, hf9⟩ := hI.2.2.2.2.1
    refine lv_aload_n hx hb dL_law_982 rfl (lv_at hl 4 rfl) ?_
    refine zz_con 0 hx hb dL_law_983 (by decide) ?_
    refine zz_lald (y := v1) hx hb hI.2.1.K hat9 (vp_in_nI (by decide) (by decide)) dL_law_984 (by rw [nI_clamp (by decide)]; exact hf9) ?_
    rw [e9]
    refine lv_iload hx hb dL_law_985 (lv_at hl 0 rfl) ?_
    refine zz_bi_eq (tgt := 994) hx hb dL_law_987 (by decide) (fun hp => ?_) (fun hp => ?_)
    · rw [zv_bf hp]
      refine lv_lconst (v := 0) hx hb dL_law_994 (by decide) ?_
      refine W.lcmp hx hb dL_law_995 ?_
      rw [lg_cmp_self]
      refine lv_if_eq (tgt := 1001) hx hb dL_law_996 (by decide) (fun _ => ?_) (fun h8 => absurd rfl h8)
      refine lv_goto (tgt := 1502) hx hb dL_law_1001 (by decide) ?_
      exact kk _ _ _ hS ⟨_, _, _, _, _, _, hzi, hg, hI⟩ (lv_sub hl [2, 3, 4, 5, 6, 7] rfl)
    · rw [zv_bt hp]
      refine lv_lconst (v := 1) hx hb dL_law_990 (by decide) ?_
      refine lv_goto (tgt := 995) hx hb dL_law_991 (by decide) ?_
      refine W.lcmp hx hb dL_law_995 ?_
      rw [lg_cmp_self]
      refine lv_if_eq (tgt := 1001) hx hb dL_law_996 (by decide) (fun _ => ?_) (fun h8 => absurd rfl h8)
      refine lv_goto (tgt := 1502) hx hb dL_law_1001 (by decide) ?_
      exact kk _ _ _ hS ⟨_, _, _, _, _, _, hzi, hg, hI⟩ (lv_sub hl [2, 3, 4, 5, 6, 7] rfl)

set_option maxHeartbeats 4000000 in
set_option maxRecDepth 100000 in
theorem lawc_isOpen {p : Program} (l : Launch) (hfl : l.stackTraces = false) {e : Env} {s : State} {m : MethodId} {below : List Frame} {meth : Method} {c : Code} {H : Heap} {locs : List Loc} {cells slots : Nat} {Q : State → Prop} {b L : Nat} {xs : Nat → Int32} {ls : Array Slot} {K : zz_G} {om i : Nat} {th : Int32} {vl : Int64} {vd : UInt64} {N : Nat → Nat → Nat} {G : Nat → Nat → Int32} {Ls : Nat → Int64} (C : lw_C p s m c b L xs) (hi : i + 3 ≤ L) (hzi : zi N) (hg : zgi N G) (hS : va_S (lw_A s) s.heap H locs) (hI : zv_I K s om th vl vd N G Ls N G Ls H) (hl : lv_has ls 9 [(5, .int (nI i)), (4, .ref (om + 15)), (3, .ref (om + 14)), (2, .ref (zv_ad om 0 0)), (1, .ref s.heap.size), (0, .ref b)]) (hc : cells + 10 ≤ room_1.cells) (hs : slots + 200 ≤ room_1.slots)
    (kk : ∀ (H1 : Heap) (locs1 : List Loc) (ls1 : Array Slot), va_S (lw_A s) s.heap H1 locs1 → lw_V K s om H1 → lv_has ls1 9 [(5, .int (nI i)), (4, .ref (om + 15)), (3, .ref (om + 14)), (2, .ref (zv_ad om 0 0)), (1, .ref s.heap.size), (0, .ref b)] → W p l e room_1 s m #[Value.ref b] below meth c H1 locs1 (cells + 10) (slots + 200) Q (F0 m 1502 ls1 [])) : W p l e room_1 s m #[Value.ref b] below meth c H locs cells slots Q (F0 m 1004 ls []) := by
  obtain ⟨hx, hb, hml, hown, hts, hXX, hbl, hL⟩ := id C
  have hom := hI.1
  refine lv_aload_n hx hb dL_law_1004 rfl (lv_at hl 4 rfl) ?_
  refine lv_aload_n hx hb dL_law_1005 rfl (lv_at hl 5 rfl) ?_
  refine lv_iload hx hb dL_law_1006 (lv_at hl 0 rfl) ?_
  refine zz_con 1 hx hb dL_law_1008 (by decide) ?_
  refine zz_add hx hb dL_law_1009 ?_
  refine lw_sld C hS (j := i + 1) (by omega) dL_law_1010 ?_
  refine lv_aload_n hx hb dL_law_1011 rfl (lv_at hl 2 rfl) ?_
  refine zz_after (A := lw_A s) (pc := 1012) rfl (zz_runSH (As := [.ref s.heap.size, .int (xs (i + 1)), .ref (om + 14)]) (rest := []) hx hb hml hown hts (c_L_isOpen l hfl (K := K) (A := lw_L s om (om + 14)) (Ax := lw_X s om) (ox := s.heap.size) (ol := om + 14) (v0 := vl) (N := N) (G := G) (L := Ls) hzi (xs (i + 1)) (fun q h => Or.inl h) (Or.inr rfl) (fun z => z.2 ⟨by omega, by omega⟩)) zw_709 zw_710 zw_0 zw_711 zd_L_isOpen ⟨Nat.le_of_ble_eq_true rfl, Nat.le_of_ble_eq_true rfl⟩ (hI.2.1.narrow (hI.la (Or.inl rfl))) (hI.nl _) ⟨hI.nx, hI.2.2.1, hI.2.2.2.2.1⟩ hl.1 (Nat.le_of_ble_eq_true rfl) dL_law_1012 ⟨Nat.le_trans (Nat.add_le_add_left (Nat.le_of_ble_eq_true rfl) _) hc, Nat.le_trans (Nat.add_le_add_left (Nat.le_of_ble_eq_true rfl) _) hs⟩) hS (hI.la (Or.inl rfl)) (fun v H locs hq hF hS => ?_)
  obtain ⟨rfl, hX1, v1, hv1, hve⟩ := hq
  have hI := hI.onL hF hX1 hv1
  refine W.widen (k := cells + 10) (n := slots + 200) (Nat.add_le_add_left (Nat.le_of_ble_eq_true rfl) _) (Nat.add_le_add_left (Nat.le_of_ble_eq_true rfl) _) ?_
  refine W.eq (g2 := F0 m 1015 ls [.int (nI (zs_isOpen N (xs (i + 1))))]) rfl ?_
  refine lv_istore (lv' := [(6, .int (nI (zs_isOpen N (xs (i + 1))))), (5, .int (nI i)), (4, .ref (om + 15)), (3, .ref (om + 14)), (2, .ref (zv_ad om 0 0)), (1, .ref s.heap.size), (0, .ref b)]) hx hb dL_law_1015 hl (Nat.le_of_ble_eq_true rfl) rfl (fun ls hl => ?_)
  refine lv_aload_n hx hb dL_law_1017 rfl (lv_at hl 4 rfl) ?_
  refine lv_aload_n hx hb dL_law_1018 rfl (lv_at hl 6 rfl) ?_
  refine lv_iload hx hb dL_law_1019 (lv_at hl 1 rfl) ?_
  refine zz_con 1 hx hb dL_law_1021 (by decide) ?_
  refine zz_add hx hb dL_law_1022 ?_
  refine lw_sld C hS (j := i + 1) (by omega) dL_law_1023 ?_
  refine zz_after (A := lw_A s) (pc := 1024) rfl (zz_runV (ci := 6) (q0 := (RX3, TX3, 22)) (b := zv_ad om 0 0) (As := [.int (xs (i + 1))]) (rest := []) hx hb hml hown hts (c_X3_isOpen l (K := K) (A := lw_M om H) (ad := zv_ad om) (th := th) (N := N) (G := G) (L := Ls) hzi.q (xs (i + 1))) zw_1020 zw_1021 zw_1022 zw_5 zw_1023 zd_X3_isOpen ⟨Nat.le_of_ble_eq_true rfl, Nat.le_of_ble_eq_true rfl⟩ (hI.2.1.narrow hI.ma) (fun q h => Or.inr h) (zm_ob hI.2.2.2.1).1 rfl rfl hI.2.2.2.1.wide hl.1 (Nat.le_of_ble_eq_true rfl) dL_law_1024 ⟨hc, hs⟩) hS hI.ma (fun v H locs hq hF hS => ?_)
  obtain ⟨rfl, hM⟩ := hq
  have hI := hI.onM hF (zv_M.slim hM)
  refine W.eq (g2 := F0 m 1027 ls [.int (zz_bo (zp_isOpen N (xs (i + 1))))]) rfl ?_
  refine lv_istore (lv' := [(7, .int (zz_bo (zp_isOpen N (xs (i + 1))))), (6, .int (nI (zs_isOpen N (xs (i + 1))))), (5, .int (nI i)), (4, .ref (om + 15)), (3, .ref (om + 14)), (2, .ref (zv_ad om 0 0)), (1, .ref s.heap.size), (0, .ref b)]) hx hb dL_law_1027 hl (Nat.le_of_ble_eq_true rfl) rfl (fun ls hl => ?_)
  refine lv_aload_n hx hb dL_law_1029 rfl (lv_at hl 5 rfl) ?_
  refine zz_after (A := lw_A s) (pc := 1030) rfl (zz_runV (ci := 6) (q0 := (RX3, TX3, 22)) (b := zv_ad om 0 0) (As := []) (rest := []) hx hb hml hown hts (c_X3_thrown l (K := K) (A := lw_M om H) (ad := zv_ad om) (th := nI (zs_isOpen N (xs (i + 1))))) zw_876 zw_877 zw_878 zw_5 zw_879 zd_X3_thrown ⟨Nat.le_of_ble_eq_true rfl, Nat.le_of_ble_eq_true rfl⟩ (hI.2.1.narrow hI.ma) (fun q h => Or.inr h) (zm_ob hI.2.2.2.1).1 rfl rfl hI.2.2.2.1.wide hl.1 (Nat.le_of_ble_eq_true rfl) dL_law_1030 ⟨hc, hs⟩) hS (fun _ z => z.elim) (fun v H locs hq hF hS => ?_)
  obtain rfl := hq
  have hI := hI.ro hF
  refine W.eq (g2 := F0 m 1033 ls [.int (nI (zs_isOpen N (xs (i + 1))))]) rfl ?_
  refine lv_iload hx hb dL_law_1033 (lv_at hl 1 rfl) ?_
  refine lv_icmp_eq (tgt := 1040) hx hb dL_law_1035 (by decide) (fun _ => ?_) (fun h9 => absurd rfl h9)
  refine lv_iload hx hb dL_law_1040 (lv_at hl 1 rfl) ?_
  refine lv_if_ne (tgt := 1064) hx hb dL_law_1042 (by decide) (fun h9 => ?_) (fun h9 => ?_)
  · skip
    refine lv_goto (tgt := 1502) hx hb dL_law_1064 (by decide) ?_
    exact kk _ _ _ hS ⟨_, _, _, _, _, _, hzi, hg, hI⟩ (lv_sub hl [2, 3, 4, 5, 6, 7] rfl)
  · skip
    have e9 := hve h9
    obtain ⟨f9, hat9, hf9⟩ := hI.2.2.2.2.1
    refine lv_aload_n hx hb dL_law_1045 rfl (lv_at hl 4 rfl) ?_
    refine zz_con 0 hx hb dL_law_1046 (by decide) ?_
    refine zz_lald (y := v1) hx hb hI.2.1.K hat9 (vp_in_nI (by decide) (by decide)) dL_law_1047 (by rw [nI_clamp (by decide)]; exact hf9) ?_
    rw [e9]
    refine lv_iload hx hb dL_law_1048 (lv_at hl 0 rfl) ?_
    refine zz_bi_eq (tgt := 1057) hx hb dL_law_1050 (by decide) (fun hp => ?_) (fun hp => ?_)
    · rw [zv_bf hp]
      refine lv_lconst (v := 0) hx hb dL_law_1057 (by decide) ?_
      refine W.lcmp hx hb dL_law_1058 ?_
      rw [lg_cmp_self]
      refine lv_if_eq (tgt := 1064) hx hb dL_law_1059 (by decide) (fun _ => ?_) (fun h8 => absurd rfl h8)
      refine lv_goto (tgt := 1502) hx hb dL_law_1064 (by decide) ?_
      exact kk _ _ _ hS ⟨_, _, _, _, _, _, hzi, hg, hI⟩ (lv_sub hl [2, 3, 4, 5, 6, 7] rfl)
    · rw [zv_bt hp]
      refine lv_lconst (v := 1) hx hb dL_law_1053 (by decide) ?_
      refine lv_goto (tgt := 1058) hx hb dL_law_1054 (by decide) ?_
      refine W.lcmp hx hb dL_law_1058 ?_
      rw [lg_cmp_self]
      refine lv_if_eq (tgt := 1064) hx hb dL_law_1059 (by decide) (fun _ => ?_) (fun h8 => absurd rfl h8)
      refine lv_goto (tgt := 1502) hx hb dL_law_1064 (by decide) ?_
      exact kk _ _ _ hS ⟨_, _, _, _, _, _, hzi, hg, hI⟩ (lv_sub hl [2, 3, 4, 5, 6, 7] rfl)

set_option maxHeartbeats 4000000 in
set_option maxRecDepth 100000 in
theorem lawc_seated {p : Program} (l : Launch) (hfl : l.stackTraces = false) {e : Env} {s : State} {m : MethodId} {below : List Frame} {meth : Method} {c : Code} {H : Heap} {locs : List Loc} {cells slots : Nat} {Q : State → Prop} {b L : Nat} {xs : Nat → Int32} {ls : Array Slot} {K : zz_G} {om i : Nat} {th : Int32} {vl : Int64} {vd : UInt64} {N : Nat → Nat → Nat} {G : Nat → Nat → Int32} {Ls : Nat → Int64} (C : lw_C p s m c b L xs) (hi : i + 3 ≤ L) (hzi : zi N) (hg : zgi N G) (hS : va_S (lw_A s) s.heap H locs) (hI : zv_I K s om th vl vd N G Ls N G Ls H) (hl : lv_has ls 9 [(5, .int (nI i)), (4, .ref (om + 15)), (3, .ref (om + 14)), (2, .ref (zv_ad om 0 0)), (1, .ref s.heap.size), (0, .ref b)]) (hc : cells + 10 ≤ room_1.cells) (hs : slots + 200 ≤ room_1.slots)
    (kk : ∀ (H1 : Heap) (locs1 : List Loc) (ls1 : Array Slot), va_S (lw_A s) s.heap H1 locs1 → lw_V K s om H1 → lv_has ls1 9 [(5, .int (nI i)), (4, .ref (om + 15)), (3, .ref (om + 14)), (2, .ref (zv_ad om 0 0)), (1, .ref s.heap.size), (0, .ref b)] → W p l e room_1 s m #[Value.ref b] below meth c H1 locs1 (cells + 10) (slots + 200) Q (F0 m 1502 ls1 [])) : W p l e room_1 s m #[Value.ref b] below meth c H locs cells slots Q (F0 m 1067 ls []) := by
  obtain ⟨hx, hb, hml, hown, hts, hXX, hbl, hL⟩ := id C
  have hom := hI.1
  refine lv_aload_n hx hb dL_law_1067 rfl (lv_at hl 4 rfl) ?_
  refine lv_aload_n hx hb dL_law_1068 rfl (lv_at hl 5 rfl) ?_
  refine lv_iload hx hb dL_law_1069 (lv_at hl 0 rfl) ?_
  refine zz_con 1 hx hb dL_law_1071 (by decide) ?_
  refine zz_add hx hb dL_law_1072 ?_
  refine lw_sld C hS (j := i + 1) (by omega) dL_law_1073 ?_
  refine lv_aload_n hx hb dL_law_1074 rfl (lv_at hl 5 rfl) ?_
  refine lv_iload hx hb dL_law_1075 (lv_at hl 0 rfl) ?_
  refine zz_con 2 hx hb dL_law_1077 (by decide) ?_
  refine zz_add hx hb dL_law_1078 ?_
  refine lw_sld C hS (j := i + 2) (by omega) dL_law_1079 ?_
  refine lv_aload_n hx hb dL_law_1080 rfl (lv_at hl 2 rfl) ?_
  refine zz_after (A := lw_A s) (pc := 1081) rfl (zz_runSH (As := [.ref s.heap.size, .int (xs (i + 1)), .int (xs (i + 2)), .ref (om + 14)]) (rest := []) hx hb hml hown hts (c_L_seated l hfl (K := K) (A := lw_L s om (om + 14)) (Ax := lw_X s om) (ox := s.heap.size) (ol := om + 14) (v0 := vl) (N := N) (G := G) (L := Ls) hzi (xs (i + 1)) (xs (i + 2)) (fun q h => Or.inl h) (Or.inr rfl) (fun z => z.2 ⟨by omega, by omega⟩)) zw_716 zw_717 zw_0 zw_718 zd_L_seated ⟨Nat.le_of_ble_eq_true rfl, Nat.le_of_ble_eq_true rfl⟩ (hI.2.1.narrow (hI.la (Or.inl rfl))) (hI.nl _) ⟨hI.nx, hI.2.2.1, hI.2.2.2.2.1⟩ hl.1 (Nat.le_of_ble_eq_true rfl) dL_law_1081 ⟨Nat.le_trans (Nat.add_le_add_left (Nat.le_of_ble_eq_true rfl) _) hc, Nat.le_trans (Nat.add_le_add_left (Nat.le_of_ble_eq_true rfl) _) hs⟩) hS (hI.la (Or.inl rfl)) (fun v H locs hq hF hS => ?_)
  obtain ⟨rfl, hX1, v1, hv1, hve⟩ := hq
  have hI := hI.onL hF hX1 hv1
  refine W.widen (k := cells + 10) (n := slots + 200) (Nat.add_le_add_left (Nat.le_of_ble_eq_true rfl) _) (Nat.add_le_add_left (Nat.le_of_ble_eq_true rfl) _) ?_
  refine W.eq (g2 := F0 m 1084 ls [.int (nI ((zs_seated N (xs (i + 1)) (xs (i + 2))).1))]) rfl ?_
  refine lv_istore (lv' := [(6, .int (nI ((zs_seated N (xs (i + 1)) (xs (i + 2))).1))), (5, .int (nI i)), (4, .ref (om + 15)), (3, .ref (om + 14)), (2, .ref (zv_ad om 0 0)), (1, .ref s.heap.size), (0, .ref b)]) hx hb dL_law_1084 hl (Nat.le_of_ble_eq_true rfl) rfl (fun ls hl => ?_)
  refine lv_aload_n hx hb dL_law_1086 rfl (lv_at hl 4 rfl) ?_
  refine lv_aload_n hx hb dL_law_1087 rfl (lv_at hl 6 rfl) ?_
  refine lv_iload hx hb dL_law_1088 (lv_at hl 1 rfl) ?_
  refine zz_con 1 hx hb dL_law_1090 (by decide) ?_
  refine zz_add hx hb dL_law_1091 ?_
  refine lw_sld C hS (j := i + 1) (by omega) dL_law_1092 ?_
  refine lv_aload_n hx hb dL_law_1093 rfl (lv_at hl 6 rfl) ?_
  refine lv_iload hx hb dL_law_1094 (lv_at hl 1 rfl) ?_
  refine zz_con 2 hx hb dL_law_1096 (by decide) ?_
  refine zz_add hx hb dL_law_1097 ?_
  refine lw_sld C hS (j := i + 2) (by omega) dL_law_1098 ?_
  refine zz_after (A := lw_A s) (pc := 1099) rfl (zz_runV (ci := 6) (q0 := (RX3, TX3, 22)) (b := zv_ad om 0 0) (As := [.int (xs (i + 1)), .int (xs (i + 2))]) (rest := []) hx hb hml hown hts (c_X3_seated l (K := K) (A := lw_M om H) (ad := zv_ad om) (th := th) (N := N) (G := G) (L := Ls) hzi.q (xs (i + 1)) (xs (i + 2))) zw_1024 zw_1025 zw_1026 zw_5 zw_1027 zd_X3_seated ⟨Nat.le_of_ble_eq_true rfl, Nat.le_of_ble_eq_true rfl⟩ (hI.2.1.narrow hI.ma) (fun q h => Or.inr h) (zm_ob hI.2.2.2.1).1 rfl rfl hI.2.2.2.1.wide hl.1 (Nat.le_of_ble_eq_true rfl) dL_law_1099 ⟨hc, hs⟩) hS hI.ma (fun v H locs hq hF hS => ?_)
  obtain ⟨rfl, hM⟩ := hq
  have hI := hI.onM hF (zv_M.slim hM)
  refine W.eq (g2 := F0 m 1102 ls [.int ((zs_seated N (xs (i + 1)) (xs (i + 2))).2)]) rfl ?_
  refine lv_istore (lv' := [(7, .int ((zs_seated N (xs (i + 1)) (xs (i + 2))).2)), (6, .int (nI ((zs_seated N (xs (i + 1)) (xs (i + 2))).1))), (5, .int (nI i)), (4, .ref (om + 15)), (3, .ref (om + 14)), (2, .ref (zv_ad om 0 0)), (1, .ref s.heap.size), (0, .ref b)]) hx hb dL_law_1102 hl (Nat.le_of_ble_eq_true rfl) rfl (fun ls hl => ?_)
  refine lv_aload_n hx hb dL_law_1104 rfl (lv_at hl 5 rfl) ?_
  refine zz_after (A := lw_A s) (pc := 1105) rfl (zz_runV (ci := 6) (q0 := (RX3, TX3, 22)) (b := zv_ad om 0 0) (As := []) (rest := []) hx hb hml hown hts (c_X3_thrown l (K := K) (A := lw_M om H) (ad := zv_ad om) (th := nI ((zs_seated N (xs (i + 1)) (xs (i + 2))).1))) zw_876 zw_877 zw_878 zw_5 zw_879 zd_X3_thrown ⟨Nat.le_of_ble_eq_true rfl, Nat.le_of_ble_eq_true rfl⟩ (hI.2.1.narrow hI.ma) (fun q h => Or.inr h) (zm_ob hI.2.2.2.1).1 rfl rfl hI.2.2.2.1.wide hl.1 (Nat.le_of_ble_eq_true rfl) dL_law_1105 ⟨hc, hs⟩) hS (fun _ z => z.elim) (fun v H locs hq hF hS => ?_)
  obtain rfl := hq
  have hI := hI.ro hF
  refine W.eq (g2 := F0 m 1108 ls [.int (nI ((zs_seated N (xs (i + 1)) (xs (i + 2))).1))]) rfl ?_
  refine lv_iload hx hb dL_law_1108 (lv_at hl 1 rfl) ?_
  refine lv_icmp_eq (tgt := 1115) hx hb dL_law_1110 (by decide) (fun _ => ?_) (fun h9 => absurd rfl h9)
  refine lv_iload hx hb dL_law_1115 (lv_at hl 1 rfl) ?_
  refine lv_if_ne (tgt := 1132) hx hb dL_law_1117 (by decide) (fun h9 => ?_) (fun h9 => ?_)
  · skip
    refine lv_goto (tgt := 1502) hx hb dL_law_1132 (by decide) ?_
    exact kk _ _ _ hS ⟨_, _, _, _, _, _, hzi, hg, hI⟩ (lv_sub hl [2, 3, 4, 5, 6, 7] rfl)
  · skip
    have e9 := hve h9
    obtain ⟨f9, hat9, hf9⟩ := hI.2.2.2.2.1
    refine lv_aload_n hx hb dL_law_1120 rfl (lv_at hl 4 rfl) ?_
    refine zz_con 0 hx hb dL_law_1121 (by decide) ?_
    refine zz_lald (y := v1) hx hb hI.2.1.K hat9 (vp_in_nI (by decide) (by decide)) dL_law_1122 (by rw [nI_clamp (by decide)]; exact hf9) ?_
    rw [e9]
    refine lv_iload hx hb dL_law_1123 (lv_at hl 0 rfl) ?_
    refine lv_i2l hx hb dL_law_1125 rfl ?_
    refine W.lcmp hx hb dL_law_1126 ?_
    rw [lg_cmp_self]
    refine lv_if_eq (tgt := 1132) hx hb dL_law_1127 (by decide) (fun _ => ?_) (fun h8 => absurd rfl h8)
    refine lv_goto (tgt := 1502) hx hb dL_law_1132 (by decide) ?_
    exact kk _ _ _ hS ⟨_, _, _, _, _, _, hzi, hg, hI⟩ (lv_sub hl [2, 3, 4, 5, 6, 7] rfl)

set_option maxHeartbeats 4000000 in
set_option maxRecDepth 100000 in
theorem lawc_pass {p : Program} (l : Launch) (hfl : l.stackTraces = false) {e : Env} {s : State} {m : MethodId} {below : List Frame} {meth : Method} {c : Code} {H : Heap} {locs : List Loc} {cells slots : Nat} {Q : State → Prop} {b L : Nat} {xs : Nat → Int32} {ls : Array Slot} {K : zz_G} {om i : Nat} {th : Int32} {vl : Int64} {vd : UInt64} {N : Nat → Nat → Nat} {G : Nat → Nat → Int32} {Ls : Nat → Int64} (C : lw_C p s m c b L xs) (hi : i + 3 ≤ L) (hzi : zi N) (hg : zgi N G) (hS : va_S (lw_A s) s.heap H locs) (hI : zv_I K s om th vl vd N G Ls N G Ls H) (hl : lv_has ls 9 [(5, .int (nI i)), (4, .ref (om + 15)), (3, .ref (om + 14)), (2, .ref (zv_ad om 0 0)), (1, .ref s.heap.size), (0, .ref b)]) (hc : cells + 10 ≤ room_1.cells) (hs : slots + 200 ≤ room_1.slots)
    (kk : ∀ (H1 : Heap) (locs1 : List Loc) (ls1 : Array Slot), va_S (lw_A s) s.heap H1 locs1 → lw_V K s om H1 → lv_has ls1 9 [(5, .int (nI i)), (4, .ref (om + 15)), (3, .ref (om + 14)), (2, .ref (zv_ad om 0 0)), (1, .ref s.heap.size), (0, .ref b)] → W p l e room_1 s m #[Value.ref b] below meth c H1 locs1 (cells + 10) (slots + 200) Q (F0 m 1502 ls1 [])) : W p l e room_1 s m #[Value.ref b] below meth c H locs cells slots Q (F0 m 1135 ls []) := by
  obtain ⟨hx, hb, hml, hown, hts, hXX, hbl, hL⟩ := id C
  have hom := hI.1
  refine lv_aload_n hx hb dL_law_1135 rfl (lv_at hl 4 rfl) ?_
  refine lv_aload_n hx hb dL_law_1136 rfl (lv_at hl 5 rfl) ?_
  refine lv_iload hx hb dL_law_1137 (lv_at hl 0 rfl) ?_
  refine zz_con 1 hx hb dL_law_1139 (by decide) ?_
  refine zz_add hx hb dL_law_1140 ?_
  refine lw_sld C hS (j := i + 1) (by omega) dL_law_1141 ?_
  refine lv_aload_n hx hb dL_law_1142 rfl (lv_at hl 2 rfl) ?_
  refine zz_after (A := lw_A s) (pc := 1143) rfl (zz_runSH (As := [.ref s.heap.size, .int (xs (i + 1)), .ref (om + 14)]) (rest := []) hx hb hml hown hts (c_L_pass l hfl (K := K) (A := lw_L s om (om + 14)) (Ax := lw_X s om) (ox := s.heap.size) (ol := om + 14) (v0 := vl) (N := N) (G := G) (L := Ls) hzi (xs (i + 1)) (fun q h => Or.inl h) (Or.inr rfl) (fun z => z.2 ⟨by omega, by omega⟩)) zw_723 zw_724 zw_0 zw_725 zd_L_pass ⟨Nat.le_of_ble_eq_true rfl, Nat.le_of_ble_eq_true rfl⟩ (hI.2.1.narrow (hI.la (Or.inl rfl))) (hI.nl _) ⟨hI.nx, hI.2.2.1, hI.2.2.2.2.1⟩ hl.1 (Nat.le_of_ble_eq_true rfl) dL_law_1143 ⟨Nat.le_trans (Nat.add_le_add_left (Nat.le_of_ble_eq_true rfl) _) hc, Nat.le_trans (Nat.add_le_add_left (Nat.le_of_ble_eq_true rfl) _) hs⟩) hS (hI.la (Or.inl rfl)) (fun v H locs hq hF hS => ?_)
  obtain ⟨rfl, hX1, v1, hv1, hve⟩ := hq
  have hI := hI.onL hF hX1 hv1
  refine W.widen (k := cells + 10) (n := slots + 200) (Nat.add_le_add_left (Nat.le_of_ble_eq_true rfl) _) (Nat.add_le_add_left (Nat.le_of_ble_eq_true rfl) _) ?_
  refine W.eq (g2 := F0 m 1146 ls [.int (nI ((zs_pass N G Ls (xs (i + 1))).1))]) rfl ?_
  refine lv_istore (lv' := [(6, .int (nI ((zs_pass N G Ls (xs (i + 1))).1))), (5, .int (nI i)), (4, .ref (om + 15)), (3, .ref (om + 14)), (2, .ref (zv_ad om 0 0)), (1, .ref s.heap.size), (0, .ref b)]) hx hb dL_law_1146 hl (Nat.le_of_ble_eq_true rfl) rfl (fun ls hl => ?_)
  refine lv_aload_n hx hb dL_law_1148 rfl (lv_at hl 4 rfl) ?_
  refine lv_aload_n hx hb dL_law_1149 rfl (lv_at hl 6 rfl) ?_
  refine lv_iload hx hb dL_law_1150 (lv_at hl 1 rfl) ?_
  refine zz_con 1 hx hb dL_law_1152 (by decide) ?_
  refine zz_add hx hb dL_law_1153 ?_
  refine lw_sld C hS (j := i + 1) (by omega) dL_law_1154 ?_
  refine zz_after (A := lw_A s) (pc := 1155) rfl (zz_runV (ci := 6) (q0 := (RX3, TX3, 22)) (b := zv_ad om 0 0) (As := [.int (xs (i + 1))]) (rest := []) hx hb hml hown hts (c_X3_pass l (K := K) (A := lw_M om H) (ad := zv_ad om) (th := th) (N := N) (G := G) (L := Ls) hzi.q hg (xs (i + 1))) zw_1028 zw_1029 zw_1030 zw_5 zw_1031 zd_X3_pass ⟨Nat.le_of_ble_eq_true rfl, Nat.le_of_ble_eq_true rfl⟩ (hI.2.1.narrow hI.ma) (fun q h => Or.inr h) (zm_ob hI.2.2.2.1).1 rfl rfl hI.2.2.2.1.wide hl.1 (Nat.le_of_ble_eq_true rfl) dL_law_1155 ⟨hc, hs⟩) hS hI.ma (fun v H locs hq hF hS => ?_)
  obtain ⟨rfl, hM⟩ := hq
  have hI := hI.onM hF (zv_M.slim hM)
  refine W.eq (g2 := F0 m 1158 ls [.int ((zs_pass N G Ls (xs (i + 1))).2.1)]) rfl ?_
  refine lv_istore (lv' := [(7, .int ((zs_pass N G Ls (xs (i + 1))).2.1)), (6, .int (nI ((zs_pass N G Ls (xs (i + 1))).1))), (5, .int (nI i)), (4, .ref (om + 15)), (3, .ref (om + 14)), (2, .ref (zv_ad om 0 0)), (1, .ref s.heap.size), (0, .ref b)]) hx hb dL_law_1158 hl (Nat.le_of_ble_eq_true rfl) rfl (fun ls hl => ?_)
  refine lv_aload_n hx hb dL_law_1160 rfl (lv_at hl 5 rfl) ?_
  refine zz_after (A := lw_A s) (pc := 1161) rfl (zz_runV (ci := 6) (q0 := (RX3, TX3, 22)) (b := zv_ad om 0 0) (As := []) (rest := []) hx hb hml hown hts (c_X3_thrown l (K := K) (A := lw_M om H) (ad := zv_ad om) (th := nI ((zs_pass N G Ls (xs (i + 1))).1))) zw_876 zw_877 zw_878 zw_5 zw_879 zd_X3_thrown ⟨Nat.le_of_ble_eq_true rfl, Nat.le_of_ble_eq_true rfl⟩ (hI.2.1.narrow hI.ma) (fun q h => Or.inr h) (zm_ob hI.2.2.2.1).1 rfl rfl hI.2.2.2.1.wide hl.1 (Nat.le_of_ble_eq_true rfl) dL_law_1161 ⟨hc, hs⟩) hS (fun _ z => z.elim) (fun v H locs hq hF hS => ?_)
  obtain rfl := hq
  have hI := hI.ro hF
  refine W.eq (g2 := F0 m 1164 ls [.int (nI ((zs_pass N G Ls (xs (i + 1))).1))]) rfl ?_
  refine lv_iload hx hb dL_law_1164 (lv_at hl 1 rfl) ?_
  refine lv_icmp_eq (tgt := 1171) hx hb dL_law_1166 (by decide) (fun _ => ?_) (fun h9 => absurd rfl h9)
  refine lv_iload hx hb dL_law_1171 (lv_at hl 1 rfl) ?_
  refine lv_if_ne (tgt := 1188) hx hb dL_law_1173 (by decide) (fun h9 => ?_) (fun h9 => ?_)
  · skip
    refine lv_goto (tgt := 1502) hx hb dL_law_1188 (by decide) ?_
    exact kk _ _ _ hS ⟨_, _, _, _, _, _, hzi, ki_pass hzi hg _, hI⟩ (lv_sub hl [2, 3, 4, 5, 6, 7] rfl)
  · skip
    have e9 := hve h9
    obtain ⟨f9, hat9, hf9⟩ := hI.2.2.2.2.1
    refine lv_aload_n hx hb dL_law_1176 rfl (lv_at hl 4 rfl) ?_
    refine zz_con 0 hx hb dL_law_1177 (by decide) ?_
    refine zz_lald (y := v1) hx hb hI.2.1.K hat9 (vp_in_nI (by decide) (by decide)) dL_law_1178 (by rw [nI_clamp (by decide)]; exact hf9) ?_
    rw [e9]
    refine lv_iload hx hb dL_law_1179 (lv_at hl 0 rfl) ?_
    refine lv_i2l hx hb dL_law_1181 rfl ?_
    refine W.lcmp hx hb dL_law_1182 ?_
    rw [lg_cmp_self]
    refine lv_if_eq (tgt := 1188) hx hb dL_law_1183 (by decide) (fun _ => ?_) (fun h8 => absurd rfl h8)
    refine lv_goto (tgt := 1502) hx hb dL_law_1188 (by decide) ?_
    exact kk _ _ _ hS ⟨_, _, _, _, _, _, hzi, ki_pass hzi hg _, hI⟩ (lv_sub hl [2, 3, 4, 5, 6, 7] rfl)

set_option maxHeartbeats 4000000 in
set_option maxRecDepth 100000 in
theorem lawc_warmth {p : Program} (l : Launch) (hfl : l.stackTraces = false) {e : Env} {s : State} {m : MethodId} {below : List Frame} {meth : Method} {c : Code} {H : Heap} {locs : List Loc} {cells slots : Nat} {Q : State → Prop} {b L : Nat} {xs : Nat → Int32} {ls : Array Slot} {K : zz_G} {om i : Nat} {th : Int32} {vl : Int64} {vd : UInt64} {N : Nat → Nat → Nat} {G : Nat → Nat → Int32} {Ls : Nat → Int64} (C : lw_C p s m c b L xs) (hi : i + 3 ≤ L) (hzi : zi N) (hg : zgi N G) (hS : va_S (lw_A s) s.heap H locs) (hI : zv_I K s om th vl vd N G Ls N G Ls H) (hl : lv_has ls 9 [(5, .int (nI i)), (4, .ref (om + 15)), (3, .ref (om + 14)), (2, .ref (zv_ad om 0 0)), (1, .ref s.heap.size), (0, .ref b)]) (hc : cells + 10 ≤ room_1.cells) (hs : slots + 200 ≤ room_1.slots)
    (kk : ∀ (H1 : Heap) (locs1 : List Loc) (ls1 : Array Slot), va_S (lw_A s) s.heap H1 locs1 → lw_V K s om H1 → lv_has ls1 9 [(5, .int (nI i)), (4, .ref (om + 15)), (3, .ref (om + 14)), (2, .ref (zv_ad om 0 0)), (1, .ref s.heap.size), (0, .ref b)] → W p l e room_1 s m #[Value.ref b] below meth c H1 locs1 (cells + 10) (slots + 200) Q (F0 m 1502 ls1 [])) : W p l e room_1 s m #[Value.ref b] below meth c H locs cells slots Q (F0 m 1191 ls []) := by
  obtain ⟨hx, hb, hml, hown, hts, hXX, hbl, hL⟩ := id C
  have hom := hI.1
  refine lv_aload_n hx hb dL_law_1191 rfl (lv_at hl 4 rfl) ?_
  refine lv_aload_n hx hb dL_law_1192 rfl (lv_at hl 5 rfl) ?_
  refine lv_iload hx hb dL_law_1193 (lv_at hl 0 rfl) ?_
  refine zz_con 1 hx hb dL_law_1195 (by decide) ?_
  refine zz_add hx hb dL_law_1196 ?_
  refine lw_sld C hS (j := i + 1) (by omega) dL_law_1197 ?_
  refine lv_aload_n hx hb dL_law_1198 rfl (lv_at hl 2 rfl) ?_
  refine zz_after (A := lw_A s) (pc := 1199) rfl (zz_runSH (As := [.ref s.heap.size, .int (xs (i + 1)), .ref (om + 14)]) (rest := []) hx hb hml hown hts (c_L_warmth l hfl (K := K) (A := lw_L s om (om + 14)) (Ax := lw_X s om) (ox := s.heap.size) (ol := om + 14) (v0 := vl) (N := N) (G := G) (L := Ls) hzi (xs (i + 1)) (fun q h => Or.inl h) (Or.inr rfl) (fun z => z.2 ⟨by omega, by omega⟩)) zw_752 zw_753 zw_0 zw_754 zd_L_warmth ⟨Nat.le_of_ble_eq_true rfl, Nat.le_of_ble_eq_true rfl⟩ (hI.2.1.narrow (hI.la (Or.inl rfl))) (hI.nl _) ⟨hI.nx, hI.2.2.1, hI.2.2.2.2.1⟩ hl.1 (Nat.le_of_ble_eq_true rfl) dL_law_1199 ⟨Nat.le_trans (Nat.add_le_add_left (Nat.le_of_ble_eq_true rfl) _) hc, Nat.le_trans (Nat.add_le_add_left (Nat.le_of_ble_eq_true rfl) _) hs⟩) hS (hI.la (Or.inl rfl)) (fun v H locs hq hF hS => ?_)
  obtain ⟨rfl, hX1, v1, hv1, hve⟩ := hq
  have hI := hI.onL hF hX1 hv1
  refine W.widen (k := cells + 10) (n := slots + 200) (Nat.add_le_add_left (Nat.le_of_ble_eq_true rfl) _) (Nat.add_le_add_left (Nat.le_of_ble_eq_true rfl) _) ?_
  refine W.eq (g2 := F0 m 1202 ls [.int (nI ((zs_warmth N G 0 (xs (i + 1))).1))]) rfl ?_
  refine lv_istore (lv' := [(6, .int (nI ((zs_warmth N G 0 (xs (i + 1))).1))), (5, .int (nI i)), (4, .ref (om + 15)), (3, .ref (om + 14)), (2, .ref (zv_ad om 0 0)), (1, .ref s.heap.size), (0, .ref b)]) hx hb dL_law_1202 hl (Nat.le_of_ble_eq_true rfl) rfl (fun ls hl => ?_)
  refine lv_aload_n hx hb dL_law_1204 rfl (lv_at hl 4 rfl) ?_
  refine lv_aload_n hx hb dL_law_1205 rfl (lv_at hl 6 rfl) ?_
  refine lv_iload hx hb dL_law_1206 (lv_at hl 1 rfl) ?_
  refine zz_con 1 hx hb dL_law_1208 (by decide) ?_
  refine zz_add hx hb dL_law_1209 ?_
  refine lw_sld C hS (j := i + 1) (by omega) dL_law_1210 ?_
  refine zz_after (A := lw_A s) (pc := 1211) rfl (zz_runV (ci := 6) (q0 := (RX3, TX3, 22)) (b := zv_ad om 0 0) (As := [.int (xs (i + 1))]) (rest := []) hx hb hml hown hts (c_X3_warmth l (K := K) (A := lw_M om H) (ad := zv_ad om) (th := th) (N := N) (G := G) (L := Ls) hzi.q (xs (i + 1))) zw_1040 zw_1041 zw_1042 zw_5 zw_1043 zd_X3_warmth ⟨Nat.le_of_ble_eq_true rfl, Nat.le_of_ble_eq_true rfl⟩ (hI.2.1.narrow hI.ma) (fun q h => Or.inr h) (zm_ob hI.2.2.2.1).1 rfl rfl hI.2.2.2.1.wide hl.1 (Nat.le_of_ble_eq_true rfl) dL_law_1211 ⟨hc, hs⟩) hS hI.ma (fun v H locs hq hF hS => ?_)
  obtain ⟨rfl, hM⟩ := hq
  have hI := hI.onM hF (zv_M.slim hM)
  refine W.eq (g2 := F0 m 1214 ls [.int ((zs_warmth N G 0 (xs (i + 1))).2)]) rfl ?_
  refine lv_istore (lv' := [(7, .int ((zs_warmth N G 0 (xs (i + 1))).2)), (6, .int (nI ((zs_warmth N G 0 (xs (i + 1))).1))), (5, .int (nI i)), (4, .ref (om + 15)), (3, .ref (om + 14)), (2, .ref (zv_ad om 0 0)), (1, .ref s.heap.size), (0, .ref b)]) hx hb dL_law_1214 hl (Nat.le_of_ble_eq_true rfl) rfl (fun ls hl => ?_)
  refine lv_aload_n hx hb dL_law_1216 rfl (lv_at hl 5 rfl) ?_
  refine zz_after (A := lw_A s) (pc := 1217) rfl (zz_runV (ci := 6) (q0 := (RX3, TX3, 22)) (b := zv_ad om 0 0) (As := []) (rest := []) hx hb hml hown hts (c_X3_thrown l (K := K) (A := lw_M om H) (ad := zv_ad om) (th := nI ((zs_warmth N G 0 (xs (i + 1))).1))) zw_876 zw_877 zw_878 zw_5 zw_879 zd_X3_thrown ⟨Nat.le_of_ble_eq_true rfl, Nat.le_of_ble_eq_true rfl⟩ (hI.2.1.narrow hI.ma) (fun q h => Or.inr h) (zm_ob hI.2.2.2.1).1 rfl rfl hI.2.2.2.1.wide hl.1 (Nat.le_of_ble_eq_true rfl) dL_law_1217 ⟨hc, hs⟩) hS (fun _ z => z.elim) (fun v H locs hq hF hS => ?_)
  obtain rfl := hq
  have hI := hI.ro hF
  refine W.eq (g2 := F0 m 1220 ls [.int (nI ((zs_warmth N G 0 (xs (i + 1))).1))]) rfl ?_
  refine lv_iload hx hb dL_law_1220 (lv_at hl 1 rfl) ?_
  refine lv_icmp_eq (tgt := 1227) hx hb dL_law_1222 (by decide) (fun _ => ?_) (fun h9 => absurd rfl h9)
  refine lv_iload hx hb dL_law_1227 (lv_at hl 1 rfl) ?_
  refine lv_if_ne (tgt := 1244) hx hb dL_law_1229 (by decide) (fun h9 => ?_) (fun h9 => ?_)
  · skip
    refine lv_goto (tgt := 1502) hx hb dL_law_1244 (by decide) ?_
    exact kk _ _ _ hS ⟨_, _, _, _, _, _, hzi, hg, hI⟩ (lv_sub hl [2, 3, 4, 5, 6, 7] rfl)
  · skip
    have e9 := hve h9
    obtain ⟨f9, hat9, hf9⟩ := hI.2.2.2.2.1
    refine lv_aload_n hx hb dL_law_1232 rfl (lv_at hl 4 rfl) ?_
    refine zz_con 0 hx hb dL_law_1233 (by decide) ?_
    refine zz_lald (y := v1) hx hb hI.2.1.K hat9 (vp_in_nI (by decide) (by decide)) dL_law_1234 (by rw [nI_clamp (by decide)]; exact hf9) ?_
    rw [e9]
    refine lv_iload hx hb dL_law_1235 (lv_at hl 0 rfl) ?_
    refine lv_i2l hx hb dL_law_1237 rfl ?_
    refine W.lcmp hx hb dL_law_1238 ?_
    rw [lg_cmp_self]
    refine lv_if_eq (tgt := 1244) hx hb dL_law_1239 (by decide) (fun _ => ?_) (fun h8 => absurd rfl h8)
    refine lv_goto (tgt := 1502) hx hb dL_law_1244 (by decide) ?_
    exact kk _ _ _ hS ⟨_, _, _, _, _, _, hzi, hg, hI⟩ (lv_sub hl [2, 3, 4, 5, 6, 7] rfl)

set_option maxHeartbeats 4000000 in
set_option maxRecDepth 100000 in
theorem lawc_air {p : Program} (l : Launch) (hfl : l.stackTraces = false) {e : Env} {s : State} {m : MethodId} {below : List Frame} {meth : Method} {c : Code} {H : Heap} {locs : List Loc} {cells slots : Nat} {Q : State → Prop} {b L : Nat} {xs : Nat → Int32} {ls : Array Slot} {K : zz_G} {om i : Nat} {th : Int32} {vl : Int64} {vd : UInt64} {N : Nat → Nat → Nat} {G : Nat → Nat → Int32} {Ls : Nat → Int64} (C : lw_C p s m c b L xs) (hi : i + 3 ≤ L) (hzi : zi N) (hg : zgi N G) (hS : va_S (lw_A s) s.heap H locs) (hI : zv_I K s om th vl vd N G Ls N G Ls H) (hl : lv_has ls 9 [(5, .int (nI i)), (4, .ref (om + 15)), (3, .ref (om + 14)), (2, .ref (zv_ad om 0 0)), (1, .ref s.heap.size), (0, .ref b)]) (hc : cells + 10 ≤ room_1.cells) (hs : slots + 200 ≤ room_1.slots)
    (kk : ∀ (H1 : Heap) (locs1 : List Loc) (ls1 : Array Slot), va_S (lw_A s) s.heap H1 locs1 → lw_V K s om H1 → lv_has ls1 9 [(5, .int (nI i)), (4, .ref (om + 15)), (3, .ref (om + 14)), (2, .ref (zv_ad om 0 0)), (1, .ref s.heap.size), (0, .ref b)] → W p l e room_1 s m #[Value.ref b] below meth c H1 locs1 (cells + 10) (slots + 200) Q (F0 m 1502 ls1 [])) : W p l e room_1 s m #[Value.ref b] below meth c H locs cells slots Q (F0 m 1247 ls []) := by
  obtain ⟨hx, hb, hml, hown, hts, hXX, hbl, hL⟩ := id C
  have hom := hI.1
  refine lv_aload_n hx hb dL_law_1247 rfl (lv_at hl 4 rfl) ?_
  refine lv_aload_n hx hb dL_law_1248 rfl (lv_at hl 5 rfl) ?_
  refine lv_iload hx hb dL_law_1249 (lv_at hl 0 rfl) ?_
  refine zz_con 1 hx hb dL_law_1251 (by decide) ?_
  refine zz_add hx hb dL_law_1252 ?_
  refine lw_sld C hS (j := i + 1) (by omega) dL_law_1253 ?_
  refine lv_aload_n hx hb dL_law_1254 rfl (lv_at hl 2 rfl) ?_
  refine zz_after (A := lw_A s) (pc := 1255) rfl (zz_runSH (As := [.ref s.heap.size, .int (xs (i + 1)), .ref (om + 14)]) (rest := []) hx hb hml hown hts (c_L_air l hfl (K := K) (A := lw_L s om (om + 14)) (Ax := lw_X s om) (ox := s.heap.size) (ol := om + 14) (v0 := vl) (N := N) (G := G) (L := Ls) hzi (xs (i + 1)) (fun q h => Or.inl h) (Or.inr rfl) (fun z => z.2 ⟨by omega, by omega⟩)) zw_759 zw_760 zw_0 zw_761 zd_L_air ⟨Nat.le_of_ble_eq_true rfl, Nat.le_of_ble_eq_true rfl⟩ (hI.2.1.narrow (hI.la (Or.inl rfl))) (hI.nl _) ⟨hI.nx, hI.2.2.1, hI.2.2.2.2.1⟩ hl.1 (Nat.le_of_ble_eq_true rfl) dL_law_1255 ⟨Nat.le_trans (Nat.add_le_add_left (Nat.le_of_ble_eq_true rfl) _) hc, Nat.le_trans (Nat.add_le_add_left (Nat.le_of_ble_eq_true rfl) _) hs⟩) hS (hI.la (Or.inl rfl)) (fun v H locs hq hF hS => ?_)
  obtain ⟨rfl, hX1, v1, hv1, hve⟩ := hq
  have hI := hI.onL hF hX1 hv1
  refine W.widen (k := cells + 10) (n := slots + 200) (Nat.add_le_add_left (Nat.le_of_ble_eq_true rfl) _) (Nat.add_le_add_left (Nat.le_of_ble_eq_true rfl) _) ?_
  refine W.eq (g2 := F0 m 1258 ls [.int (nI ((zs_warmth N G 1 (xs (i + 1))).1))]) rfl ?_
  refine lv_istore (lv' := [(6, .int (nI ((zs_warmth N G 1 (xs (i + 1))).1))), (5, .int (nI i)), (4, .ref (om + 15)), (3, .ref (om + 14)), (2, .ref (zv_ad om 0 0)), (1, .ref s.heap.size), (0, .ref b)]) hx hb dL_law_1258 hl (Nat.le_of_ble_eq_true rfl) rfl (fun ls hl => ?_)
  refine lv_aload_n hx hb dL_law_1260 rfl (lv_at hl 4 rfl) ?_
  refine lv_aload_n hx hb dL_law_1261 rfl (lv_at hl 6 rfl) ?_
  refine lv_iload hx hb dL_law_1262 (lv_at hl 1 rfl) ?_
  refine zz_con 1 hx hb dL_law_1264 (by decide) ?_
  refine zz_add hx hb dL_law_1265 ?_
  refine lw_sld C hS (j := i + 1) (by omega) dL_law_1266 ?_
  refine zz_after (A := lw_A s) (pc := 1267) rfl (zz_runV (ci := 6) (q0 := (RX3, TX3, 22)) (b := zv_ad om 0 0) (As := [.int (xs (i + 1))]) (rest := []) hx hb hml hown hts (c_X3_air l (K := K) (A := lw_M om H) (ad := zv_ad om) (th := th) (N := N) (G := G) (L := Ls) hzi.q (xs (i + 1))) zw_1044 zw_1045 zw_1046 zw_5 zw_1047 zd_X3_air ⟨Nat.le_of_ble_eq_true rfl, Nat.le_of_ble_eq_true rfl⟩ (hI.2.1.narrow hI.ma) (fun q h => Or.inr h) (zm_ob hI.2.2.2.1).1 rfl rfl hI.2.2.2.1.wide hl.1 (Nat.le_of_ble_eq_true rfl) dL_law_1267 ⟨hc, hs⟩) hS hI.ma (fun v H locs hq hF hS => ?_)
  obtain ⟨rfl, hM⟩ := hq
  have hI := hI.onM hF (zv_M.slim hM)
  refine W.eq (g2 := F0 m 1270 ls [.int ((zs_warmth N G 1 (xs (i + 1))).2)]) rfl ?_
  refine lv_istore (lv' := [(7, .int ((zs_warmth N G 1 (xs (i + 1))).2)), (6, .int (nI ((zs_warmth N G 1 (xs (i + 1))).1))), (5, .int (nI i)), (4, .ref (om + 15)), (3, .ref (om + 14)), (2, .ref (zv_ad om 0 0)), (1, .ref s.heap.size), (0, .ref b)]) hx hb dL_law_1270 hl (Nat.le_of_ble_eq_true rfl) rfl (fun ls hl => ?_)
  refine lv_aload_n hx hb dL_law_1272 rfl (lv_at hl 5 rfl) ?_
  refine zz_after (A := lw_A s) (pc := 1273) rfl (zz_runV (ci := 6) (q0 := (RX3, TX3, 22)) (b := zv_ad om 0 0) (As := []) (rest := []) hx hb hml hown hts (c_X3_thrown l (K := K) (A := lw_M om H) (ad := zv_ad om) (th := nI ((zs_warmth N G 1 (xs (i + 1))).1))) zw_876 zw_877 zw_878 zw_5 zw_879 zd_X3_thrown ⟨Nat.le_of_ble_eq_true rfl, Nat.le_of_ble_eq_true rfl⟩ (hI.2.1.narrow hI.ma) (fun q h => Or.inr h) (zm_ob hI.2.2.2.1).1 rfl rfl hI.2.2.2.1.wide hl.1 (Nat.le_of_ble_eq_true rfl) dL_law_1273 ⟨hc, hs⟩) hS (fun _ z => z.elim) (fun v H locs hq hF hS => ?_)
  obtain rfl := hq
  have hI := hI.ro hF
  refine W.eq (g2 := F0 m 1276 ls [.int (nI ((zs_warmth N G 1 (xs (i + 1))).1))]) rfl ?_
  refine lv_iload hx hb dL_law_1276 (lv_at hl 1 rfl) ?_
  refine lv_icmp_eq (tgt := 1283) hx hb dL_law_1278 (by decide) (fun _ => ?_) (fun h9 => absurd rfl h9)
  refine lv_iload hx hb dL_law_1283 (lv_at hl 1 rfl) ?_
  refine lv_if_ne (tgt := 1300) hx hb dL_law_1285 (by decide) (fun h9 => ?_) (fun h9 => ?_)
  · skip
    refine lv_goto (tgt := 1502) hx hb dL_law_1300 (by decide) ?_
    exact kk _ _ _ hS ⟨_, _, _, _, _, _, hzi, hg, hI⟩ (lv_sub hl [2, 3, 4, 5, 6, 7] rfl)
  · skip
    have e9 := hve h9
    obtain ⟨f9, hat9, hf9⟩ := hI.2.2.2.2.1
    refine lv_aload_n hx hb dL_law_1288 rfl (lv_at hl 4 rfl) ?_
    refine zz_con 0 hx hb dL_law_1289 (by decide) ?_
    refine zz_lald (y := v1) hx hb hI.2.1.K hat9 (vp_in_nI (by decide) (by decide)) dL_law_1290 (by rw [nI_clamp (by decide)]; exact hf9) ?_
    rw [e9]
    refine lv_iload hx hb dL_law_1291 (lv_at hl 0 rfl) ?_
    refine lv_i2l hx hb dL_law_1293 rfl ?_
    refine W.lcmp hx hb dL_law_1294 ?_
    rw [lg_cmp_self]
    refine lv_if_eq (tgt := 1300) hx hb dL_law_1295 (by decide) (fun _ => ?_) (fun h8 => absurd rfl h8)
    refine lv_goto (tgt := 1502) hx hb dL_law_1300 (by decide) ?_
    exact kk _ _ _ hS ⟨_, _, _, _, _, _, hzi, hg, hI⟩ (lv_sub hl [2, 3, 4, 5, 6, 7] rfl)

set_option maxHeartbeats 4000000 in
set_option maxRecDepth 100000 in
theorem lawc_meanStanding {p : Program} (l : Launch) (hfl : l.stackTraces = false) {e : Env} {s : State} {m : MethodId} {below : List Frame} {meth : Method} {c : Code} {H : Heap} {locs : List Loc} {cells slots : Nat} {Q : State → Prop} {b L : Nat} {xs : Nat → Int32} {ls : Array Slot} {K : zz_G} {om i : Nat} {th : Int32} {vl : Int64} {vd : UInt64} {N : Nat → Nat → Nat} {G : Nat → Nat → Int32} {Ls : Nat → Int64} (C : lw_C p s m c b L xs) (hi : i + 3 ≤ L) (hzi : zi N) (hg : zgi N G) (hS : va_S (lw_A s) s.heap H locs) (hI : zv_I K s om th vl vd N G Ls N G Ls H) (hl : lv_has ls 9 [(5, .int (nI i)), (4, .ref (om + 15)), (3, .ref (om + 14)), (2, .ref (zv_ad om 0 0)), (1, .ref s.heap.size), (0, .ref b)]) (hc : cells + 10 ≤ room_1.cells) (hs : slots + 200 ≤ room_1.slots)
    (kk : ∀ (H1 : Heap) (locs1 : List Loc) (ls1 : Array Slot), va_S (lw_A s) s.heap H1 locs1 → lw_V K s om H1 → lv_has ls1 9 [(5, .int (nI i)), (4, .ref (om + 15)), (3, .ref (om + 14)), (2, .ref (zv_ad om 0 0)), (1, .ref s.heap.size), (0, .ref b)] → W p l e room_1 s m #[Value.ref b] below meth c H1 locs1 (cells + 10) (slots + 200) Q (F0 m 1502 ls1 [])) : W p l e room_1 s m #[Value.ref b] below meth c H locs cells slots Q (F0 m 1358 ls []) := by
  obtain ⟨hx, hb, hml, hown, hts, hXX, hbl, hL⟩ := id C
  have hom := hI.1
  refine lv_aload_n hx hb dL_law_1358 rfl (lv_at hl 4 rfl) ?_
  refine lv_aload hx hb dL_law_1359 (lv_at hl 1 rfl) ?_
  refine zz_after (A := lw_A s) (pc := 1361) rfl (zz_runSH (As := [.ref s.heap.size, .ref (om + 15)]) (rest := []) hx hb hml hown hts (c_L_meanStanding l hfl (K := K) (A := lw_L s om (om + 15)) (Ax := lw_X s om) (ox := s.heap.size) (od := om + 15) (v0 := vd) (N := N) (G := G) (L := Ls) hzi (fun q h => Or.inl h) (Or.inr rfl) (fun z => z.2 ⟨by omega, by omega⟩)) zw_766 zw_767 zw_0 zw_768 zd_L_meanStanding ⟨Nat.le_of_ble_eq_true rfl, Nat.le_of_ble_eq_true rfl⟩ (hI.2.1.narrow (hI.la (Or.inr rfl))) (hI.nl _) ⟨hI.nx, hI.2.2.1, hI.2.2.2.2.2⟩ hl.1 (Nat.le_of_ble_eq_true rfl) dL_law_1361 ⟨Nat.le_trans (Nat.add_le_add_left (Nat.le_of_ble_eq_true rfl) _) hc, Nat.le_trans (Nat.add_le_add_left (Nat.le_of_ble_eq_true rfl) _) hs⟩) hS (hI.la (Or.inr rfl)) (fun v H locs hq hF hS => ?_)
  obtain ⟨rfl, hX1, v1, hv1, hve⟩ := hq
  have hI := hI.onD hF hX1 hv1
  refine W.widen (k := cells + 10) (n := slots + 200) (Nat.add_le_add_left (Nat.le_of_ble_eq_true rfl) _) (Nat.add_le_add_left (Nat.le_of_ble_eq_true rfl) _) ?_
  refine W.eq (g2 := F0 m 1364 ls [.int (nI (if N 0 1 = 0 then 1 else 0))]) rfl ?_
  refine lv_istore (lv' := [(6, .int (nI (if N 0 1 = 0 then 1 else 0))), (5, .int (nI i)), (4, .ref (om + 15)), (3, .ref (om + 14)), (2, .ref (zv_ad om 0 0)), (1, .ref s.heap.size), (0, .ref b)]) hx hb dL_law_1364 hl (Nat.le_of_ble_eq_true rfl) rfl (fun ls hl => ?_)
  refine lv_aload_n hx hb dL_law_1366 rfl (lv_at hl 4 rfl) ?_
  refine zz_after (A := lw_A s) (pc := 1367) rfl (zz_runV (ci := 6) (q0 := (RX3, TX3, 22)) (b := zv_ad om 0 0) (As := []) (rest := []) hx hb hml hown hts (c_X3_meanStanding l (K := K) (A := lw_M om H) (ad := zv_ad om) (th := th) (N := N) (G := G) (L := Ls) hzi.q) zw_1068 zw_1069 zw_1070 zw_5 zw_1071 zd_X3_meanStanding ⟨Nat.le_of_ble_eq_true rfl, Nat.le_of_ble_eq_true rfl⟩ (hI.2.1.narrow hI.ma) (fun q h => Or.inr h) (zm_ob hI.2.2.2.1).1 rfl rfl hI.2.2.2.1.wide hl.1 (Nat.le_of_ble_eq_true rfl) dL_law_1367 ⟨hc, hs⟩) hS hI.ma (fun v H locs hq hF hS => ?_)
  obtain ⟨rfl, hM⟩ := hq
  have hI := hI.onM hF (zv_M.slim hM)
  refine W.eq (g2 := F0 m 1370 ls [.double (if N 0 1 = 0 then 0 else zmean N)]) rfl ?_
  refine lv_dstore (lv' := [(7, .double (if N 0 1 = 0 then 0 else zmean N)), (6, .int (nI (if N 0 1 = 0 then 1 else 0))), (5, .int (nI i)), (4, .ref (om + 15)), (3, .ref (om + 14)), (2, .ref (zv_ad om 0 0)), (1, .ref s.heap.size), (0, .ref b)]) hx hb dL_law_1370 hl (Nat.le_of_ble_eq_true rfl) rfl (fun ls hl => ?_)
  refine lv_aload_n hx hb dL_law_1372 rfl (lv_at hl 5 rfl) ?_
  refine zz_after (A := lw_A s) (pc := 1373) rfl (zz_runV (ci := 6) (q0 := (RX3, TX3, 22)) (b := zv_ad om 0 0) (As := []) (rest := []) hx hb hml hown hts (c_X3_thrown l (K := K) (A := lw_M om H) (ad := zv_ad om) (th := nI (if N 0 1 = 0 then 1 else 0))) zw_876 zw_877 zw_878 zw_5 zw_879 zd_X3_thrown ⟨Nat.le_of_ble_eq_true rfl, Nat.le_of_ble_eq_true rfl⟩ (hI.2.1.narrow hI.ma) (fun q h => Or.inr h) (zm_ob hI.2.2.2.1).1 rfl rfl hI.2.2.2.1.wide hl.1 (Nat.le_of_ble_eq_true rfl) dL_law_1373 ⟨hc, hs⟩) hS (fun _ z => z.elim) (fun v H locs hq hF hS => ?_)
  obtain rfl := hq
  have hI := hI.ro hF
  refine W.eq (g2 := F0 m 1376 ls [.int (nI (if N 0 1 = 0 then 1 else 0))]) rfl ?_
  refine lv_iload hx hb dL_law_1376 (lv_at hl 1 rfl) ?_
  refine lv_icmp_eq (tgt := 1383) hx hb dL_law_1378 (by decide) (fun _ => ?_) (fun h9 => absurd rfl h9)
  refine lv_iload hx hb dL_law_1383 (lv_at hl 1 rfl) ?_
  refine lv_if_ne (tgt := 1420) hx hb dL_law_1385 (by decide) (fun h9 => ?_) (fun h9 => ?_)
  · skip
    refine lv_goto (tgt := 1502) hx hb dL_law_1420 (by decide) ?_
    exact kk _ _ _ hS ⟨_, _, _, _, _, _, hzi, hg, hI⟩ (lv_sub hl [2, 3, 4, 5, 6, 7] rfl)
  · skip
    have e9 := hve h9
    obtain ⟨f9, hat9, hf9⟩ := hI.2.2.2.2.2
    refine lv_aload hx hb dL_law_1388 (lv_at hl 3 rfl) ?_
    refine zz_con 0 hx hb dL_law_1390 (by decide) ?_
    refine zz_dald (y := v1) hx hb hI.2.1.K hat9 (vp_in_nI (by decide) (by decide)) dL_law_1391 (by rw [nI_clamp (by decide)]; exact hf9) ?_
    have h8 := zif_n h9
    rw [e9]
    refine lv_dload hx hb dL_law_1392 (lv_at hl 0 rfl) ?_
    rw [if_neg h8]
    refine lv_dcmp hx hb dL_law_1394 ?_
    rw [zmean_c hzi.q h8]
    refine lv_if_eq (tgt := 1420) hx hb dL_law_1395 (by decide) (fun _ => ?_) (fun h7 => absurd rfl h7)
    refine lv_goto (tgt := 1502) hx hb dL_law_1420 (by decide) ?_
    exact kk _ _ _ hS ⟨_, _, _, _, _, _, hzi, hg, hI⟩ (lv_sub hl [2, 3, 4, 5, 6, 7] rfl)

set_option maxHeartbeats 4000000 in
set_option maxRecDepth 100000 in
theorem lawc_givenShare {p : Program} (l : Launch) (hfl : l.stackTraces = false) {e : Env} {s : State} {m : MethodId} {below : List Frame} {meth : Method} {c : Code} {H : Heap} {locs : List Loc} {cells slots : Nat} {Q : State → Prop} {b L : Nat} {xs : Nat → Int32} {ls : Array Slot} {K : zz_G} {om i : Nat} {th : Int32} {vl : Int64} {vd : UInt64} {N : Nat → Nat → Nat} {G : Nat → Nat → Int32} {Ls : Nat → Int64} (C : lw_C p s m c b L xs) (hi : i + 3 ≤ L) (hzi : zi N) (hg : zgi N G) (hS : va_S (lw_A s) s.heap H locs) (hI : zv_I K s om th vl vd N G Ls N G Ls H) (hl : lv_has ls 9 [(5, .int (nI i)), (4, .ref (om + 15)), (3, .ref (om + 14)), (2, .ref (zv_ad om 0 0)), (1, .ref s.heap.size), (0, .ref b)]) (hc : cells + 10 ≤ room_1.cells) (hs : slots + 200 ≤ room_1.slots)
    (kk : ∀ (H1 : Heap) (locs1 : List Loc) (ls1 : Array Slot), va_S (lw_A s) s.heap H1 locs1 → lw_V K s om H1 → lv_has ls1 9 [(5, .int (nI i)), (4, .ref (om + 15)), (3, .ref (om + 14)), (2, .ref (zv_ad om 0 0)), (1, .ref s.heap.size), (0, .ref b)] → W p l e room_1 s m #[Value.ref b] below meth c H1 locs1 (cells + 10) (slots + 200) Q (F0 m 1502 ls1 [])) : W p l e room_1 s m #[Value.ref b] below meth c H locs cells slots Q (F0 m 1423 ls []) := by
  obtain ⟨hx, hb, hml, hown, hts, hXX, hbl, hL⟩ := id C
  have hom := hI.1
  refine lv_aload_n hx hb dL_law_1423 rfl (lv_at hl 4 rfl) ?_
  refine lv_aload hx hb dL_law_1424 (lv_at hl 1 rfl) ?_
  refine zz_after (A := lw_A s) (pc := 1426) rfl (zz_runSH (As := [.ref s.heap.size, .ref (om + 15)]) (rest := []) hx hb hml hown hts (c_L_givenShare l hfl (K := K) (A := lw_L s om (om + 15)) (Ax := lw_X s om) (ox := s.heap.size) (od := om + 15) (v0 := vd) (N := N) (G := G) (L := Ls) hzi (fun q h => Or.inl h) (Or.inr rfl) (fun z => z.2 ⟨by omega, by omega⟩)) zw_794 zw_795 zw_0 zw_796 zd_L_givenShare ⟨Nat.le_of_ble_eq_true rfl, Nat.le_of_ble_eq_true rfl⟩ (hI.2.1.narrow (hI.la (Or.inr rfl))) (hI.nl _) ⟨hI.nx, hI.2.2.1, hI.2.2.2.2.2⟩ hl.1 (Nat.le_of_ble_eq_true rfl) dL_law_1426 ⟨Nat.le_trans (Nat.add_le_add_left (Nat.le_of_ble_eq_true rfl) _) hc, Nat.le_trans (Nat.add_le_add_left (Nat.le_of_ble_eq_true rfl) _) hs⟩) hS (hI.la (Or.inr rfl)) (fun v H locs hq hF hS => ?_)
  obtain ⟨rfl, hX1, v1, hv1, hve⟩ := hq
  have hI := hI.onD hF hX1 hv1
  refine W.widen (k := cells + 10) (n := slots + 200) (Nat.add_le_add_left (Nat.le_of_ble_eq_true rfl) _) (Nat.add_le_add_left (Nat.le_of_ble_eq_true rfl) _) ?_
  refine W.eq (g2 := F0 m 1429 ls [.int (nI (if zos N = 0 then 1 else 0))]) rfl ?_
  refine lv_istore (lv' := [(6, .int (nI (if zos N = 0 then 1 else 0))), (5, .int (nI i)), (4, .ref (om + 15)), (3, .ref (om + 14)), (2, .ref (zv_ad om 0 0)), (1, .ref s.heap.size), (0, .ref b)]) hx hb dL_law_1429 hl (Nat.le_of_ble_eq_true rfl) rfl (fun ls hl => ?_)
  refine lv_aload_n hx hb dL_law_1431 rfl (lv_at hl 4 rfl) ?_
  refine zz_after (A := lw_A s) (pc := 1432) rfl (zz_runV (ci := 6) (q0 := (RX3, TX3, 22)) (b := zv_ad om 0 0) (As := []) (rest := []) hx hb hml hown hts (c_X3_givenShare l (K := K) (A := lw_M om H) (ad := zv_ad om) (th := th) (N := N) (G := G) (L := Ls) hzi.q) zw_1072 zw_1073 zw_1074 zw_5 zw_1075 zd_X3_givenShare ⟨Nat.le_of_ble_eq_true rfl, Nat.le_of_ble_eq_true rfl⟩ (hI.2.1.narrow hI.ma) (fun q h => Or.inr h) (zm_ob hI.2.2.2.1).1 rfl rfl hI.2.2.2.1.wide hl.1 (Nat.le_of_ble_eq_true rfl) dL_law_1432 ⟨hc, hs⟩) hS hI.ma (fun v H locs hq hF hS => ?_)
  obtain ⟨rfl, hM⟩ := hq
  have hI := hI.onM hF (zv_M.slim hM)
  refine W.eq (g2 := F0 m 1435 ls [.float (if zos N = 0 then 0 else zshare N)]) rfl ?_
  refine lv_fstore (lv' := [(7, .float (if zos N = 0 then 0 else zshare N)), (6, .int (nI (if zos N = 0 then 1 else 0))), (5, .int (nI i)), (4, .ref (om + 15)), (3, .ref (om + 14)), (2, .ref (zv_ad om 0 0)), (1, .ref s.heap.size), (0, .ref b)]) hx hb dL_law_1435 hl (Nat.le_of_ble_eq_true rfl) rfl (fun ls hl => ?_)
  refine lv_aload_n hx hb dL_law_1437 rfl (lv_at hl 5 rfl) ?_
  refine zz_after (A := lw_A s) (pc := 1438) rfl (zz_runV (ci := 6) (q0 := (RX3, TX3, 22)) (b := zv_ad om 0 0) (As := []) (rest := []) hx hb hml hown hts (c_X3_thrown l (K := K) (A := lw_M om H) (ad := zv_ad om) (th := nI (if zos N = 0 then 1 else 0))) zw_876 zw_877 zw_878 zw_5 zw_879 zd_X3_thrown ⟨Nat.le_of_ble_eq_true rfl, Nat.le_of_ble_eq_true rfl⟩ (hI.2.1.narrow hI.ma) (fun q h => Or.inr h) (zm_ob hI.2.2.2.1).1 rfl rfl hI.2.2.2.1.wide hl.1 (Nat.le_of_ble_eq_true rfl) dL_law_1438 ⟨hc, hs⟩) hS (fun _ z => z.elim) (fun v H locs hq hF hS => ?_)
  obtain rfl := hq
  have hI := hI.ro hF
  refine W.eq (g2 := F0 m 1441 ls [.int (nI (if zos N = 0 then 1 else 0))]) rfl ?_
  refine lv_iload hx hb dL_law_1441 (lv_at hl 1 rfl) ?_
  refine lv_icmp_eq (tgt := 1448) hx hb dL_law_1443 (by decide) (fun _ => ?_) (fun h9 => absurd rfl h9)
  refine lv_iload hx hb dL_law_1448 (lv_at hl 1 rfl) ?_
  refine lv_if_ne (tgt := 1486) hx hb dL_law_1450 (by decide) (fun h9 => ?_) (fun h9 => ?_)
  · skip
    refine lv_goto (tgt := 1502) hx hb dL_law_1486 (by decide) ?_
    exact kk _ _ _ hS ⟨_, _, _, _, _, _, hzi, hg, hI⟩ (lv_sub hl [2, 3, 4, 5, 6, 7] rfl)
  · skip
    have e9 := hve h9
    obtain ⟨f9, hat9, hf9⟩ := hI.2.2.2.2.2
    refine lv_aload hx hb dL_law_1453 (lv_at hl 3 rfl) ?_
    refine zz_con 0 hx hb dL_law_1455 (by decide) ?_
    refine zz_dald (y := v1) hx hb hI.2.1.K hat9 (vp_in_nI (by decide) (by decide)) dL_law_1456 (by rw [nI_clamp (by decide)]; exact hf9) ?_
    have h8 := zif_n h9
    rw [e9]
    refine lv_fload hx hb dL_law_1457 (lv_at hl 0 rfl) ?_
    rw [if_neg h8]
    refine lv_f2d hx hb dL_law_1459 (zshare_d hzi.q h8) ?_
    refine lv_dcmp hx hb dL_law_1460 ?_
    rw [zshare_c hzi.q h8]
    refine lv_if_eq (tgt := 1486) hx hb dL_law_1461 (by decide) (fun _ => ?_) (fun h7 => absurd rfl h7)
    refine lv_goto (tgt := 1502) hx hb dL_law_1486 (by decide) ?_
    exact kk _ _ _ hS ⟨_, _, _, _, _, _, hzi, hg, hI⟩ (lv_sub hl [2, 3, 4, 5, 6, 7] rfl)
