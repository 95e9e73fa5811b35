/-! the two new objects hold the empty building -/
def zN1 : Nat → Nat → Int32 := fun _ _ => nI 0
def zN2 : Nat → Int64 := fun _ => 0
def zv_a0 (K : zz_G) (ox u0 u1 u2 : Nat) : Nat → Nat → Nat := fun k i => if k = 0 then ox else if k = 1 then (if i = 0 then u0 else if i = 1 then u1 else u2) else K.2.2 0
theorem zv_X0 {K : zz_G} {A : Nat → Prop} {ox u0 u1 u2 : Nat} {H : Heap} (hd : u0 ≠ u1 ∧ u0 ≠ u2 ∧ u1 ≠ u2) (hx0 : ox ≠ u0 ∧ ox ≠ u1 ∧ ox ≠ u2) (hA : A ox ∧ A u0 ∧ A u1 ∧ A u2)
    (h : zz_at K ox (.inr (5, [.ref u0, .ref u1, .ref u2, .int (nI 0), .int (nI 0), .long 0, .long 0, .long 0])) H) (h0 : zz_at K u0 (.inr (2, [.int (nI 0), .ref (K.2.2 0), .int 0])) H) (h1 : zz_at K u1 (.inr (2, [.int (nI 0), .ref (K.2.2 0), .int 0])) H) (h2 : zz_at K u2 (.inr (2, [.int (nI 0), .ref (K.2.2 0), .int 0])) H) : zv_X K A ox zN0 zN1 zN2 H := by
  have key : ∀ k i e, zx_c K (zv_a0 K ox u0 u1 u2) zN1 (fun _ => 0) zN0 zN1 zN2 k i = some e → (k = 0 ∧ i = 0) ∨ (k = 1 ∧ i = 0) ∨ (k = 1 ∧ i = 1) ∨ (k = 1 ∧ i = 2) := fun k i e he => by
    match k with
    | 0 =>
      simp only [zx_c] at he
      by_cases c : i = 0
      · exact Or.inl ⟨rfl, c⟩
      · rw [if_neg c] at he; cases he
    | 1 =>
      simp only [zx_c] at he
      by_cases c : i < 3
      · omega
      · rw [if_neg c] at he; cases he
    | 2 => simp only [zx_c] at he; rw [if_neg (fun z => z.2 rfl)] at he; cases he
    | 3 => simp only [zx_c] at he; rw [if_neg (show ¬ i < zN0 0 0 from Nat.not_lt_zero _)] at he; cases he
    | 4 => simp only [zx_c] at he; rw [if_neg (show ¬ i < zN0 0 0 from Nat.not_lt_zero _)] at he; cases he
    | 5 => simp only [zx_c] at he; rw [if_neg (show ¬ i < zN0 0 1 from Nat.not_lt_zero _)] at he; cases he
    | k + 6 => simp only [zx_c] at he; cases he
  refine ⟨zv_a0 K ox u0 u1 u2, zN1, fun _ => 0, rfl, fun t ht => ⟨Nat.le_refl 0, Nat.zero_le _, fun _ => rfl⟩, fun k i e he => ?_, fun k i e k' i' e' he he' ha => ?_⟩
  · rcases key k i e he with ⟨rfl, rfl⟩ | ⟨rfl, rfl⟩ | ⟨rfl, rfl⟩ | ⟨rfl, rfl⟩
    · simp only [zx_c, if_true] at he
      cases he
      exact ⟨h, hA.1⟩
    · simp only [zx_c] at he
      rw [if_pos (by decide)] at he
      cases he
      exact ⟨h0, hA.2.1⟩
    · simp only [zx_c] at he
      rw [if_pos (by decide)] at he
      cases he
      exact ⟨h1, hA.2.2.1⟩
    · simp only [zx_c] at he
      rw [if_pos (by decide)] at he
      cases he
      exact ⟨h2, hA.2.2.2⟩
  · have e00 : zv_a0 K ox u0 u1 u2 0 0 = ox := rfl
    have e10 : zv_a0 K ox u0 u1 u2 1 0 = u0 := rfl
    have e11 : zv_a0 K ox u0 u1 u2 1 1 = u1 := rfl
    have e12 : zv_a0 K ox u0 u1 u2 1 2 = u2 := rfl
    rcases key k i e he with ⟨rfl, rfl⟩ | ⟨rfl, rfl⟩ | ⟨rfl, rfl⟩ | ⟨rfl, rfl⟩ <;> rcases key k' i' e' he' with ⟨rfl, rfl⟩ | ⟨rfl, rfl⟩ | ⟨rfl, rfl⟩ | ⟨rfl, rfl⟩ <;> first | exact ⟨rfl, rfl⟩ | (simp only [e00, e10, e11, e12] at ha; omega)
theorem zv_M0 {K : zz_G} {om : Nat} {H : Heap} (h : zz_at K om (.inr (6, [.int 0, .int 0, .int 0, .int 0, .int 0, .int 0, .ref (om + 1 + 0), .ref (om + 1 + 1), .ref (om + 1 + 2), .ref (om + 1 + 3), .ref (om + 1 + 4), .ref (om + 1 + 5), .ref (om + 1 + 6), .ref (om + 1 + 7), .ref (om + 1 + 8), .ref (om + 1 + 9), .ref (om + 1 + 10), .ref (om + 1 + 11), .ref (om + 1 + 12), .long 0, .long 0, .long 0])) H) (hn0 : zz_at K (om + 1 + 0) (.inl (K.2.1 0, 6, .inl (fun _ => nI 0))) H) (hn1 : zz_at K (om + 1 + 1) (.inl (K.2.1 0, 6, .inl (fun _ => nI 0))) H) (hn2 : zz_at K (om + 1 + 2) (.inl (K.2.1 0, 6, .inl (fun _ => nI 0))) H) (hn3 : zz_at K (om + 1 + 3) (.inl (K.2.1 0, 6, .inl (fun _ => nI 0))) H) (hn4 : zz_at K (om + 1 + 4) (.inl (K.2.1 1, 6, .inl (fun _ => nI 0))) H) (hn5 : zz_at K (om + 1 + 5) (.inl (K.2.1 0, 12, .inl (fun _ => nI 0))) H) (hn6 : zz_at K (om + 1 + 6) (.inl (K.2.1 0, 12, .inl (fun _ => nI 0))) H) (hn7 : zz_at K (om + 1 + 7) (.inl (K.2.1 0, 12, .inl (fun _ => nI 0))) H) (hn8 : zz_at K (om + 1 + 8) (.inl (K.2.1 1, 12, .inl (fun _ => nI 0))) H) (hn9 : zz_at K (om + 1 + 9) (.inl (K.2.1 1, 12, .inl (fun _ => nI 0))) H) (hn10 : zz_at K (om + 1 + 10) (.inl (K.2.1 1, 12, .inl (fun _ => nI 0))) H) (hn11 : zz_at K (om + 1 + 11) (.inl (K.2.1 0, 12, .inl (fun _ => nI 0))) H) (hn12 : zz_at K (om + 1 + 12) (.inl (K.2.1 0, 12, .inl (fun _ => nI 0))) H) : zv_M K om 0 zN0 zN1 zN2 H := by
  refine ⟨fun k i e he => ?_, fun k i e k' i' e' he he' ha => ?_⟩
  · refine ⟨?_, zv_mb he⟩
    match k, i with
    | 0, 0 => cases he; exact h
    | 0, i + 1 => simp [zm_c] at he
    | 1, 0 => cases he; exact hn0
    | 1, 1 => cases he; exact hn1
    | 1, 2 => cases he; exact hn2
    | 1, 3 => cases he; exact hn3
    | 1, 4 => cases he; exact hn4
    | 1, 5 => cases he; exact hn5
    | 1, 6 => cases he; exact hn6
    | 1, 7 => cases he; exact (congrArg (fun f => zz_at K (om + 1 + 7) (.inl (K.2.1 0, 12, .inl f)) H) (funext fun _ => (by decide : nI 1 - 1 = nI 0))).mpr hn7
    | 1, 8 => cases he; exact hn8
    | 1, 9 => cases he; exact hn9
    | 1, 10 => cases he; exact hn10
    | 1, 11 => cases he; exact hn11
    | 1, 12 => cases he; exact hn12
    | 1, j + 13 => exact absurd he (by show ¬ (none = some e); exact fun z => nomatch z)
    | k + 2, i => simp [zm_c] at he
  · have key : ∀ k i e, zm_c K (zv_ad om) 0 zN0 zN1 zN2 k i = some e → (k = 0 ∧ i = 0) ∨ k = 1 := fun k i e he => by
      match k, i with
      | 0, 0 => exact Or.inl ⟨rfl, rfl⟩
      | 0, i + 1 => simp [zm_c] at he
      | 1, _ => exact Or.inr rfl
      | k + 2, i => simp [zm_c] at he
    unfold zv_ad at ha
    rcases key k i e he with ⟨rfl, rfl⟩ | rfl <;> rcases key k' i' e' he' with ⟨rfl, rfl⟩ | rfl
    · exact ⟨rfl, rfl⟩
    · rw [if_pos rfl, if_neg (by decide)] at ha; omega
    · rw [if_pos rfl, if_neg (by decide)] at ha; omega
    · rw [if_neg (by decide), if_neg (by decide)] at ha; exact ⟨rfl, by omega⟩
