/-! the start: what the premises give -/
theorem lw_ar {ty : FieldType} {args : Array Value} {s : State} (h : (Cond.arrayClass ty).before args s = true) : ∃ cA : ClassId, ArrOfT s cA ty ∧ s.vm.findClass ("[" ++ ty.toString) = some cA := by
  obtain ⟨c, k, comp, h1, h2, h3⟩ := Cond.arrayClass_spec h
  exact ⟨c, fun n z => ⟨fun k h => (by cases h), k, h2, comp, h3⟩, h1⟩
theorem lw_ao {C : String} {args : Array Value} {s : State} (h : (Cond.arrayOver (.object C)).before args s = true) : ∃ cA : ClassId, ArrOfT s cA (.object C) ∧ va_RA s cA (.object C) := by
  obtain ⟨comp, c, k, h1, h2, h3, h4, h5⟩ := Cond.arrayOver_spec h
  exact ⟨c, fun n z => ⟨fun k h => (by cases h), k, h3, comp, h4⟩, k, comp, h3, h4, h1, h5⟩
theorem lw_w0 : ∀ w ∈ u_ws RJ0 TJ0 2, w ∈ tables_1 := by decide +kernel
theorem lw_w1 : ∀ w ∈ u_ws RJx00060 TJx00060 6, w ∈ tables_1 := by decide +kernel
theorem lw_nc : ∀ x ∈ zz_ex, ∀ y ∈ zz_ex, x ≠ y → Cond.not (.castable x y) ∈ flatC (Cond.and given_1 narrow_1) := by decide +kernel
theorem lw_se : ∀ q ∈ zz_str, Cond.exactly (.string RX2 q.1) "java/lang/String" ∈ flatC (Cond.and given_1 narrow_1) := by decide +kernel
theorem lw_sr : ∀ q ∈ zz_str, Cond.stringRef RX2 q.1 q.2 ∈ tables_1 := by decide +kernel
theorem lw_ngt : ∀ w ∈ zz_ng, w.onTables = true := by decide +kernel
theorem lw_E0 {s : State} {A0 : Array Value} (hts : ∀ w ∈ lw_tbl, w.before A0 s = true) (hgv : (Cond.and given_1 narrow_1).before A0 s = true) : ∃ K : zz_G, zz_E K (lw_A s) s s.heap := by
  have ht : ∀ w ∈ tables_1, w.before A0 s = true := fun w h => hts w (List.mem_append_right _ h)
  have hB : ∀ w ∈ zz_BW, w.before A0 s = true := fun w h => hts w (List.mem_filter.mp h).1
  have hf := flat_of_before _ hgv
  have hA : ∀ a : Nat, a < s.heap.size → ¬ lw_A s a := fun a h => Nat.not_le.mpr h
  have hcl : ∀ k : Nat, ∃ (cC : ClassId) (iS : Nat → Nat), ∀ q : vw_C, vwCl[k]? = some q → u_Kn s q.1 q.2.1 q.2.2 cC iS := by
    intro k
    match k with
    | 0 =>
      obtain ⟨c, i, h⟩ := u_known (C := RJ0) (T := TJ0) (N := 2) (n := 4) ht lw_w0 (hB _ zw_441)
      exact ⟨c, i, fun q hq => by cases hq; exact h⟩
    | 1 =>
      obtain ⟨c, i, h⟩ := u_known (C := RJx00060) (T := TJx00060) (N := 6) (n := 6) ht lw_w1 (hB _ zw_423)
      exact ⟨c, i, fun q hq => by cases hq; exact h⟩
    | 2 =>
      obtain ⟨c, i, h⟩ := u_known (C := RJx4a65c) (T := TJx4a65c) (N := 3) (n := 3) hB zf_Jx4a65c (hB _ zw_34)
      exact ⟨c, i, fun q hq => by cases hq; exact h⟩
    | 3 =>
      obtain ⟨c, i, h⟩ := u_known (C := RX0) (T := TX0) (N := 7) (n := 7) hB zf_X0 (hB _ zw_328)
      exact ⟨c, i, fun q hq => by cases hq; exact h⟩
    | 4 =>
      obtain ⟨c, i, h⟩ := u_known (C := RX1) (T := TX1) (N := 7) (n := 7) hB zf_X1 (hB _ zw_479)
      exact ⟨c, i, fun q hq => by cases hq; exact h⟩
    | 5 =>
      obtain ⟨c, i, h⟩ := u_known (C := RX2) (T := TX2) (N := 8) (n := 8) hB zf_X2 (hB _ zw_26)
      exact ⟨c, i, fun q hq => by cases hq; exact h⟩
    | 6 =>
      obtain ⟨c, i, h⟩ := u_known (C := RX3) (T := TX3) (N := 22) (n := 22) hB zf_X3 (hB _ zw_803)
      exact ⟨c, i, fun q hq => by cases hq; exact h⟩
    | k + 7 => exact ⟨0, fun _ => 0, fun q hq => by simp [vwCl] at hq⟩
  have har : ∀ k : Nat, ∃ cA : ClassId, ∀ ty : FieldType, ([.int, .boolean, .object "java/lang/Object", .long, .double] : List FieldType)[k]? = some ty → ArrOfT s cA ty ∧ va_RA s cA ty := by
    intro k
    match k with
    | 0 =>
      obtain ⟨c, h1, h2⟩ := lw_ar (hB _ zw_361)
      exact ⟨c, fun ty h => by cases h; exact ⟨h1, h2⟩⟩
    | 1 =>
      obtain ⟨c, h1, h2⟩ := lw_ar (hB _ zw_875)
      exact ⟨c, fun ty h => by cases h; exact ⟨h1, h2⟩⟩
    | 2 =>
      obtain ⟨c, h1, h2⟩ := lw_ao (C := "java/lang/Object") (ht _ (List.mem_of_getElem? (i := 411) (by decide +kernel)))
      exact ⟨c, fun ty h => by cases h; exact ⟨h1, h2⟩⟩
    | 3 =>
      obtain ⟨c, h1, h2⟩ := lw_ar (hB _ zw_1080)
      exact ⟨c, fun ty h => by cases h; exact ⟨h1, h2⟩⟩
    | 4 =>
      obtain ⟨c, h1, h2⟩ := lw_ar (hB _ zw_1081)
      exact ⟨c, fun ty h => by cases h; exact ⟨h1, h2⟩⟩
    | k + 5 => exact ⟨0, fun ty h => by simp at h⟩
  obtain ⟨mi, hmi⟩ := va_Mi.of (hf (.isRef (.mirror "[Ljava/lang/Object;")) (by decide +kernel))
  obtain ⟨t, hte, htT⟩ := va_Tof (tm := .static "java/util/ArrayList" "DEFAULTCAPACITY_EMPTY_ELEMENTDATA" "[Ljava/lang/Object;") (ty := .object "java/lang/Object") (N := 0) (f := fun _ => .null) (A := lw_A s) (by decide)
    (hf (.arrayOf (.static "java/util/ArrayList" "DEFAULTCAPACITY_EMPTY_ELEMENTDATA" "[Ljava/lang/Object;") (.object "java/lang/Object")) (by decide +kernel)) (va_eqt (z := Int32.ofNat 0) (hf (.eq (.length (.static "java/util/ArrayList" "DEFAULTCAPACITY_EMPTY_ELEMENTDATA" "[Ljava/lang/Object;")) (.int 0)) (by decide +kernel))) (fun j hj => absurd hj (Nat.not_lt_zero j)) hA
  have hZ := va_Zref (C := "java/util/ArrayList") (n := "DEFAULTCAPACITY_EMPTY_ELEMENTDATA") (d := "[Ljava/lang/Object;") (ht _ (List.mem_of_getElem? (i := 46) (by decide +kernel))) (hB _ zw_4) hte hA
  have hU := vx_Zqof (C := Bundle.tN) (n := "UNASSIGNED_STACK") (d := Bundle.steD) (A := lw_A s) (ht _ (List.mem_of_getElem? (i := 263) (by decide +kernel))) (hB _ zw_6) (hf _ (by decide +kernel)) hA
  have hL := vx_Zqof (C := Bundle.tN) (n := "SUPPRESSED_SENTINEL") (d := Bundle.listD) (A := lw_A s) (ht _ (List.mem_of_getElem? (i := 265) (by decide +kernel))) (hB _ zw_6) (hf _ (by decide +kernel)) hA
  refine ⟨((fun k => (hcl k).choose, fun k => (hcl k).choose_spec.choose), fun k => (har k).choose, fun k => if k = 0 then t else mi), ⟨⟨fun k q hq => (hcl k).choose_spec.choose_spec q hq, fun k q hq => ?_⟩, fun w hw => va_Nw.of (lw_ngt w hw) (hts w (zz_ng_in w hw)), va_AO.of (ht _ (List.mem_of_getElem? (i := 411) (by decide +kernel))), hmi, va_Dc.of (ht _ (List.mem_of_getElem? (i := 1100) (by decide +kernel))), fun q hq => ?_, fun x hx y hy hn => va_Nc.of (hf _ (lw_nc x hx y hy hn))⟩, hU, hL, hZ, htT⟩
  · match k with
    | 0 => cases hq; exact (har 0).choose_spec _ rfl
    | 1 => cases hq; exact (har 1).choose_spec _ rfl
    | 2 => cases hq; exact (har 2).choose_spec _ rfl
    | 3 => cases hq; exact (har 3).choose_spec _ rfl
    | 4 => cases hq; exact (har 4).choose_spec _ rfl
    | k + 5 => simp [zz_ty] at hq
  · obtain ⟨a, c, cell, kk, q1, -⟩ := Cond.exactly_spec (hf _ (lw_se q hq))
    exact ⟨a, vk_R.of (ht _ (lw_sr q hq)) q1⟩
