/-! the law's loop -/
theorem zz_and31 (x : Int32) : ∃ k, k < 32 ∧ x &&& nI 31 = nI k := by
  refine ⟨x.toBitVec.toNat % 32, Nat.mod_lt _ (by decide), ?_⟩
  apply Int32.toBitVec_inj.1
  show x.toBitVec &&& BitVec.ofNat 32 31 = BitVec.ofNat 32 (x.toBitVec.toNat % 32)
  apply BitVec.eq_of_toNat_eq
  rw [BitVec.toNat_and]
  have h1 : (BitVec.ofNat 32 31).toNat = 2 ^ 5 - 1 := by decide
  rw [h1, Nat.and_two_pow_sub_one_eq_mod, BitVec.toNat_ofNat, Nat.mod_eq_of_lt (a := x.toBitVec.toNat % 32) (by have := Nat.mod_lt x.toBitVec.toNat (show 32 > 0 by decide); omega)]
theorem zz_sub3 {i n : Nat} (hi : i < 2 ^ 30) (hn : n < 2 ^ 30) : nI n - nI 3 < nI i ↔ n < i + 3 := by
  rw [Int32.lt_iff_toInt_lt, pk_sub_toInt hn (by decide), nI_toInt (by omega)]
  omega
set_option maxHeartbeats 4000000 in
set_option maxRecDepth 100000 in
theorem law_body {p : Program} (l : Launch) (hfl : l.stackTraces = false) {e : Env} {s : State} {m : MethodId} {below : List Frame} {meth : Method} {c : Code} {H : Heap} {locs : List Loc} {cells slots : Nat} {Q : State → Prop} {b L : Nat} {xs : Nat → Int32} {ls : Array Slot} {K : zz_G} {om i : Nat} (C : lw_C p s m c b L xs) (hi : i + 3 ≤ L) (hS : va_S (lw_A s) s.heap H locs) (hV : lw_V K s om H) (hl : lv_has ls 9 [(5, .int (nI i)), (4, .ref (om + 15)), (3, .ref (om + 14)), (2, .ref (zv_ad om 0 0)), (1, .ref s.heap.size), (0, .ref b)]) (hc : cells + 10 ≤ room_1.cells) (hs : slots + 200 ≤ room_1.slots)
    (kk : ∀ (H1 : Heap) (locs1 : List Loc) (ls1 : Array Slot), va_S (lw_A s) s.heap H1 locs1 → lw_V K s om H1 → lv_has ls1 9 [(5, .int (nI i)), (4, .ref (om + 15)), (3, .ref (om + 14)), (2, .ref (zv_ad om 0 0)), (1, .ref s.heap.size), (0, .ref b)] → W p l e room_1 s m #[Value.ref b] below meth c H1 locs1 (cells + 10) (slots + 200) Q (F0 m 1502 ls1 [])) : W p l e room_1 s m #[Value.ref b] below meth c H locs cells slots Q (F0 m 37 ls []) := by
  obtain ⟨hx, hb, hml, hown, hts, hXX, hbl, hL⟩ := id C
  obtain ⟨th, vl, vd, N, G, Ls, hzi, hg, hI⟩ := id hV
  refine lv_aload_n hx hb dL_law_37 rfl (lv_at hl 5 rfl) ?_
  refine lv_iload hx hb dL_law_38 (lv_at hl 0 rfl) ?_
  refine lw_sld C hS (j := i) (by omega) dL_law_40 ?_
  refine lv_bipush (v := nI 31) hx hb dL_law_41 (by decide) ?_
  refine lv_iand hx hb dL_law_43 ?_
  obtain ⟨k, hk, e9⟩ := zz_and31 (xs i)
  rw [e9]
  rcases (show k = 0 ∨ k = 1 ∨ k = 2 ∨ k = 3 ∨ k = 4 ∨ k = 5 ∨ k = 6 ∨ k = 7 ∨ k = 8 ∨ k = 9 ∨ k = 10 ∨ k = 11 ∨ k = 12 ∨ k = 13 ∨ k = 14 ∨ k = 15 ∨ k = 16 ∨ k = 17 ∨ k = 18 ∨ k = 19 ∨ k = 20 ∨ k = 21 ∨ k = 22 ∨ k = 23 ∨ k = 24 ∨ k = 25 ∨ k = 26 ∨ k = 27 ∨ k = 28 ∨ k = 29 ∨ k = 30 ∨ k = 31 by omega) with rfl | rfl | rfl | rfl | rfl | rfl | rfl | rfl | rfl | rfl | rfl | rfl | rfl | rfl | rfl | rfl | rfl | rfl | rfl | rfl | rfl | rfl | rfl | rfl | rfl | rfl | rfl | rfl | rfl | rfl | rfl | rfl
  · refine lv_tableIn (off := 136) (tgt := 180) hx hb dL_law_44 (by decide) (by decide) (by decide +kernel) (by decide) ?_
    exact lawc_addFloor l hfl C hi hzi hg hS hI hl hc hs kk
  · refine lv_tableIn (off := 204) (tgt := 248) hx hb dL_law_44 (by decide) (by decide) (by decide +kernel) (by decide) ?_
    exact lawc_setCost l hfl C hi hzi hg hS hI hl hc hs kk
  · refine lv_tableIn (off := 272) (tgt := 316) hx hb dL_law_44 (by decide) (by decide) (by decide +kernel) (by decide) ?_
    exact lawc_addPerson l hfl C hi hzi hg hS hI hl hc hs kk
  · refine lv_tableIn (off := 328) (tgt := 372) hx hb dL_law_44 (by decide) (by decide) (by decide +kernel) (by decide) ?_
    exact lawc_standing l hfl C hi hzi hg hS hI hl hc hs kk
  · refine lv_tableIn (off := 384) (tgt := 428) hx hb dL_law_44 (by decide) (by decide) (by decide +kernel) (by decide) ?_
    exact lawc_book l hfl C hi hzi hg hS hI hl hc hs kk
  · refine lv_tableIn (off := 452) (tgt := 496) hx hb dL_law_44 (by decide) (by decide) (by decide +kernel) (by decide) ?_
    exact lawc_cancel l hfl C hi hzi hg hS hI hl hc hs kk
  · refine lv_tableIn (off := 508) (tgt := 552) hx hb dL_law_44 (by decide) (by decide) (by decide +kernel) (by decide) ?_
    exact lawc_bookings l hfl C hi hzi hg hS hI hl hc hs kk
  · refine lv_tableIn (off := 521) (tgt := 565) hx hb dL_law_44 (by decide) (by decide) (by decide +kernel) (by decide) ?_
    exact lawc_bookingAt l hfl C hi hzi hg hS hI hl hc hs kk
  · refine lv_tableIn (off := 577) (tgt := 621) hx hb dL_law_44 (by decide) (by decide) (by decide +kernel) (by decide) ?_
    exact lawc_plan l hfl C hi hzi hg hS hI hl hc hs kk
  · refine lv_tableIn (off := 590) (tgt := 634) hx hb dL_law_44 (by decide) (by decide) (by decide +kernel) (by decide) ?_
    exact lawc_planByTrying l hfl C hi hzi hg hS hI hl hc hs kk
  · refine lv_tableIn (off := 603) (tgt := 647) hx hb dL_law_44 (by decide) (by decide) (by decide +kernel) (by decide) ?_
    exact lawc_planLoss l hfl C hi hzi hg hS hI hl hc hs kk
  · refine lv_tableIn (off := 616) (tgt := 660) hx hb dL_law_44 (by decide) (by decide) (by decide +kernel) (by decide) ?_
    exact lawc_lossOf l hfl C hi hzi hg hS hI hl hc hs kk
  · refine lv_tableIn (off := 672) (tgt := 716) hx hb dL_law_44 (by decide) (by decide) (by decide +kernel) (by decide) ?_
    exact lawc_nextDay l hfl C hi hzi hg hS hI hl hc hs kk
  · refine lv_tableIn (off := 716) (tgt := 760) hx hb dL_law_44 (by decide) (by decide) (by decide +kernel) (by decide) ?_
    exact lawc_day l hfl C hi hzi hg hS hI hl hc hs kk
  · refine lv_tableIn (off := 729) (tgt := 773) hx hb dL_law_44 (by decide) (by decide) (by decide +kernel) (by decide) ?_
    exact lawc_comeIn l hfl C hi hzi hg hS hI hl hc hs kk
  · refine lv_tableIn (off := 785) (tgt := 829) hx hb dL_law_44 (by decide) (by decide) (by decide +kernel) (by decide) ?_
    exact lawc_leave l hfl C hi hzi hg hS hI hl hc hs kk
  · refine lv_tableIn (off := 841) (tgt := 885) hx hb dL_law_44 (by decide) (by decide) (by decide +kernel) (by decide) ?_
    exact lawc_seatOf l hfl C hi hzi hg hS hI hl hc hs kk
  · refine lv_tableIn (off := 897) (tgt := 941) hx hb dL_law_44 (by decide) (by decide) (by decide +kernel) (by decide) ?_
    exact lawc_isIn l hfl C hi hzi hg hS hI hl hc hs kk
  · refine lv_tableIn (off := 960) (tgt := 1004) hx hb dL_law_44 (by decide) (by decide) (by decide +kernel) (by decide) ?_
    exact lawc_isOpen l hfl C hi hzi hg hS hI hl hc hs kk
  · refine lv_tableIn (off := 1023) (tgt := 1067) hx hb dL_law_44 (by decide) (by decide) (by decide +kernel) (by decide) ?_
    exact lawc_seated l hfl C hi hzi hg hS hI hl hc hs kk
  · refine lv_tableIn (off := 1091) (tgt := 1135) hx hb dL_law_44 (by decide) (by decide) (by decide +kernel) (by decide) ?_
    exact lawc_pass l hfl C hi hzi hg hS hI hl hc hs kk
  · refine lv_tableIn (off := 1147) (tgt := 1191) hx hb dL_law_44 (by decide) (by decide) (by decide +kernel) (by decide) ?_
    exact lawc_warmth l hfl C hi hzi hg hS hI hl hc hs kk
  · refine lv_tableIn (off := 1203) (tgt := 1247) hx hb dL_law_44 (by decide) (by decide) (by decide +kernel) (by decide) ?_
    exact lawc_air l hfl C hi hzi hg hS hI hl hc hs kk
  · refine lv_tableIn (off := 1259) (tgt := 1303) hx hb dL_law_44 (by decide) (by decide) (by decide +kernel) (by decide) ?_
    exact lawc_energy l hfl C hi hzi hg hS hI hl hc hs kk
  · refine lv_tableIn (off := 1273) (tgt := 1317) hx hb dL_law_44 (by decide) (by decide) (by decide +kernel) (by decide) ?_
    exact lawc_discomfort l hfl C hi hzi hg hS hI hl hc hs kk
  · refine lv_tableIn (off := 1287) (tgt := 1331) hx hb dL_law_44 (by decide) (by decide) (by decide +kernel) (by decide) ?_
    exact lawc_cleaning l hfl C hi hzi hg hS hI hl hc hs kk
  · refine lv_tableIn (off := 1301) (tgt := 1345) hx hb dL_law_44 (by decide) (by decide) (by decide +kernel) (by decide) ?_
    exact lawc_noShows l hfl C hi hzi hg hS hI hl hc hs kk
  · refine lv_tableIn (off := 1314) (tgt := 1358) hx hb dL_law_44 (by decide) (by decide) (by decide +kernel) (by decide) ?_
    exact lawc_meanStanding l hfl C hi hzi hg hS hI hl hc hs kk
  · refine lv_tableIn (off := 1379) (tgt := 1423) hx hb dL_law_44 (by decide) (by decide) (by decide +kernel) (by decide) ?_
    exact lawc_givenShare l hfl C hi hzi hg hS hI hl hc hs kk
  · refine lv_tableIn (off := 1445) (tgt := 1489) hx hb dL_law_44 (by decide) (by decide) (by decide +kernel) (by decide) ?_
    exact lawc_isSound l hfl C hi hzi hg hS hI hl hc hs kk
  · refine lv_tableOut (tgt := 1502) hx hb dL_law_44 (by decide) (by decide) ?_
    refine W.widen (k := cells + 10) (n := slots + 200) (Nat.le_add_right _ _) (Nat.le_add_right _ _) ?_
    exact kk _ _ _ hS hV hl
  · refine lv_tableOut (tgt := 1502) hx hb dL_law_44 (by decide) (by decide) ?_
    refine W.widen (k := cells + 10) (n := slots + 200) (Nat.le_add_right _ _) (Nat.le_add_right _ _) ?_
    exact kk _ _ _ hS hV hl
set_option maxHeartbeats 4000000 in
set_option maxRecDepth 100000 in
theorem law_loop {p : Program} (l : Launch) (hfl : l.stackTraces = false) {e : Env} {s : State} {m : MethodId} {below : List Frame} {meth : Method} {c : Code} {Q : State → Prop} {b L : Nat} {xs : Nat → Int32} {K : zz_G} {om : Nat} (C : lw_C p s m c b L xs)
    (kend : ∀ (H : Heap) (locs : List Loc) (ls : Array Slot) (cells slots : Nat), va_S (lw_A s) s.heap H locs → cells ≤ 20000 → slots ≤ 400000 → W p l e room_1 s m #[Value.ref b] below meth c H locs cells slots Q (F0 m 1508 ls [])) :
    ∀ (k i : Nat), L < i + k → i ≤ 1536 → ∀ (H : Heap) (locs : List Loc) (ls : Array Slot), va_S (lw_A s) s.heap H locs → lw_V K s om H → lv_has ls 9 [(5, .int (nI i)), (4, .ref (om + 15)), (3, .ref (om + 14)), (2, .ref (zv_ad om 0 0)), (1, .ref s.heap.size), (0, .ref b)] → W p l e room_1 s m #[Value.ref b] below meth c H locs (40 + 10 * i) (1000 + 200 * i) Q (F0 m 28 ls []) := by
  obtain ⟨hx, hb, hml, hown, hts, hXX, hbl, hL⟩ := id C
  intro k
  induction k with
  | zero =>
    intro i hik hi H locs ls hS hV hl
    refine lv_iload hx hb dL_law_28 (lv_at hl 0 rfl) ?_
    refine lv_aload_n hx hb dL_law_30 rfl (lv_at hl 5 rfl) ?_
    refine lw_len C hS dL_law_31 ?_
    refine zz_con 3 hx hb dL_law_32 (by decide) ?_
    refine lv_isub hx hb dL_law_33 ?_
    refine lv_icmp_gt (tgt := 1508) hx hb dL_law_34 (by decide) (fun _ => kend _ _ _ _ _ hS (by omega) (by omega)) (fun h9 => absurd ((zz_sub3 (by omega) (by omega)).mpr (by omega)) h9)
  | succ k ih =>
    intro i hik hi H locs ls hS hV hl
    refine lv_iload hx hb dL_law_28 (lv_at hl 0 rfl) ?_
    refine lv_aload_n hx hb dL_law_30 rfl (lv_at hl 5 rfl) ?_
    refine lw_len C hS dL_law_31 ?_
    refine zz_con 3 hx hb dL_law_32 (by decide) ?_
    refine lv_isub hx hb dL_law_33 ?_
    refine lv_icmp_gt (tgt := 1508) hx hb dL_law_34 (by decide) (fun _ => kend _ _ _ _ _ hS (by omega) (by omega)) (fun h9 => ?_)
    have hi3 : i + 3 ≤ L := Nat.le_of_not_lt (fun z => h9 ((zz_sub3 (by omega) (by omega)).mpr z))
    refine law_body l hfl C hi3 hS hV hl (show 40 + 10 * i + 10 ≤ 603072 by omega) (show 1000 + 200 * i + 200 ≤ 7219306 by omega) (fun H1 locs1 ls1 hS hV hl => ?_)
    refine lv_iinc (v := nI (i + 3)) (k := 0) (lv' := [(5, .int (nI (i + 3))), (4, .ref (om + 15)), (3, .ref (om + 14)), (2, .ref (zv_ad om 0 0)), (1, .ref s.heap.size), (0, .ref b)]) hx hb dL_law_1502 hl rfl (by rw [← nI_add]; rfl) (Nat.le_of_ble_eq_true rfl) rfl (fun ls hl => ?_)
    refine lv_goto (tgt := 28) hx hb dL_law_1505 (by decide) ?_
    refine W.widen (k := 40 + 10 * (i + 3)) (n := 1000 + 200 * (i + 3)) (by omega) (by omega) ?_
    exact ih (i + 3) (by omega) (by omega) _ _ _ hS hV hl
