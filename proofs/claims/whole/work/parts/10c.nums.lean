/-! plain facts on numbers (fa_and, fb_bit_nat, s_l begin as the kit's rows to paste) -/
theorem fa_and (a b : Nat) : nI a &&& nI b = nI (a &&& b) := by
  apply Int32.toBitVec_inj.1
  show BitVec.ofNat 32 a &&& BitVec.ofNat 32 b = BitVec.ofNat 32 (a &&& b)
  apply BitVec.eq_of_getLsbD_eq
  intro i hi
  simp [hi]
theorem fb_bit_nat (n j : Nat) : n &&& 2 ^ j = 0 ↔ n.testBit j = false := by
  constructor
  · intro h
    have h1 : (n &&& 2 ^ j).testBit j = false := by rw [h]; simp
    rw [Nat.testBit_and] at h1
    simpa using h1
  · intro h
    apply Nat.eq_of_testBit_eq
    intro i
    rw [Nat.testBit_and]
    by_cases hi : j = i
    · subst hi; simp [h]
    · first | (simp [Nat.testBit_two_pow, hi]; done) | (simp [Nat.testBit_two_pow_of_ne hi]; done)
theorem s_l : ∀ n, n < 32 → ((nI n &&& 31).toBitVec.smod 32).toNat = n := by decide +kernel
theorem zz_six {P : Nat → Prop} {f : Nat} (h : f < 6) (h0 : P 0) (h1 : P 1) (h2 : P 2) (h3 : P 3) (h4 : P 4) (h5 : P 5) : P f := by
  match f, h with
  | 0, _ => exact h0
  | 1, _ => exact h1
  | 2, _ => exact h2
  | 3, _ => exact h3
  | 4, _ => exact h4
  | 5, _ => exact h5
theorem zz_bit1 {f : Nat} (h : f < 6) : nI 1 <<< (nI f &&& 31) = nI (2 ^ f) := zz_six (P := fun f => nI 1 <<< (nI f &&& 31) = nI (2 ^ f)) h (by decide) (by decide) (by decide) (by decide) (by decide) (by decide)
theorem zz_bit0 {S f : Nat} (hS : S < 2 ^ 31) : nI S &&& nI (2 ^ f) = 0 ↔ ¬ S.testBit f = true := by
  rw [fa_and, zz_n0 (Nat.lt_of_le_of_lt Nat.and_le_left hS), fb_bit_nat]
  simp
theorem zz_bit2 {S f : Nat} (hS : S < 2 ^ 31) (hf : f < 32) : (nI S >>> (nI f &&& 31)) &&& nI 1 = nI 1 ↔ S.testBit f = true := by
  rw [pk_shrN hS (nI f &&& 31) f (s_l f hf), fa_and, Nat.and_one_is_mod, nI_eq (by omega) (by decide), Nat.testBit_eq_decide_div_mod_eq]
  simp
/-- the distance of two numbers -/
def zd (a b : Nat) : Nat := if b < a then a - b else b - a
theorem zd_comm (a b : Nat) : zd a b = zd b a := by unfold zd; split <;> split <;> omega
theorem zz_subT {a b : Nat} (ha : a < 2 ^ 30) (hb : b < 2 ^ 30) : 0 ≤ nI a - nI b ↔ b ≤ a := by
  rw [Int32.le_iff_toInt_le, pk_sub_toInt ha hb]
  constructor
  · intro h; have : (0 : Int32).toInt = 0 := by decide
    omega
  · intro h; have : (0 : Int32).toInt = 0 := by decide
    omega
theorem zz_negs (a b : Nat) : 0 - (nI a - nI b) = nI b - nI a := by
  simp
theorem zd_abs {a b : Nat} (ha : a < 2 ^ 30) (hb : b < 2 ^ 30) : (if 0 ≤ nI a - nI b then nI a - nI b else 0 - (nI a - nI b)) = nI (zd a b) := by
  unfold zd
  by_cases h : b ≤ a
  · rw [if_pos ((zz_subT ha hb).mpr h), pk_sub h]
    by_cases h2 : b < a
    · rw [if_pos h2]
    · rw [if_neg h2]; congr 1; omega
  · rw [if_neg (fun q => h ((zz_subT ha hb).mp q)), if_neg (by omega), zz_negs, pk_sub (by omega)]
theorem zd_ap {a b : Nat} (ha : a < 2 ^ 31) (hb : b < 2 ^ 31) : (if nI b < nI a then nI a - nI b else nI b - nI a) = nI (zd a b) := by
  unfold zd
  by_cases h : b < a
  · rw [if_pos ((nI_ltI hb ha).mpr h), if_pos h, pk_sub (by omega)]
  · rw [if_neg (fun q => h ((nI_ltI hb ha).mp q)), if_neg h, pk_sub (by omega)]
theorem zz_maxN {a b : Nat} (ha : a < 2 ^ 31) (hb : b < 2 ^ 31) : (if nI a < nI b then nI b else nI a) = nI (max a b) := by
  by_cases h : a < b
  · rw [if_pos ((nI_ltI ha hb).mpr h), Nat.max_eq_right (by omega)]
  · rw [if_neg (fun q => h ((nI_ltI ha hb).mp q)), Nat.max_eq_left (by omega)]
theorem zz_minN {a b : Nat} (ha : a < 2 ^ 31) (hb : b < 2 ^ 31) : (if nI a < nI b then nI a else nI b) = nI (min a b) := by
  by_cases h : a < b
  · rw [if_pos ((nI_ltI ha hb).mpr h), Nat.min_eq_left (by omega)]
  · rw [if_neg (fun q => h ((nI_ltI ha hb).mp q)), Nat.min_eq_right (by omega)]
/-- from a range test on an int to a small number -/
theorem zz_rng {x : Int32} {n : Nat} (hn : n < 2 ^ 31) (h0 : ¬ x < 0) (h1 : ¬ nI n ≤ x) : ∃ j : Nat, j < n ∧ x = nI j := by
  rcases pk_ix x hn with h | h | h
  · exact absurd h h0
  · exact absurd h h1
  · exact h
section ZX2
variable {K : zz_G} {A : Nat → Prop} {ad : Nat → Nat → Nat} {E E' : Nat → Nat → Int32} {cap : Nat → Nat} {N N' : Nat → Nat → Nat} {G G' : Nat → Nat → Int32} {L L' : Nat → Int64} {H H1 : Heap} {th th' : Int32}
theorem zx_co (hE : E = E') (hN : N = N') (hG : G = G') (hL : L = L') (h : zz_W K A ad (zx_c K ad E cap N G L) H) : zz_W K A ad (zx_c K ad E' cap N' G' L') H := by subst hE hN hG hL; exact h
theorem zm_co (ht : th = th') (hN : N = N') (hG : G = G') (hL : L = L') (h : zz_W K A ad (zm_c K ad th N G L) H) : zz_W K A ad (zm_c K ad th' N' G' L') H := by subst ht hN hG hL; exact h
theorem zx_put_key {f i : Nat} {x v : Int32} (h : zz_W K A ad (zx_c K ad E cap N G L) H) (hf : f < N 0 0) (hx : x.toNatClampNeg = i) (hat : zz_at K (ad 4 f) (.inl (K.2.1 0, 13, .inl (upd (E (1 + f)) x.toNatClampNeg v))) H1) (ho : ∀ r : Nat, r ≠ ad 4 f → H1[r]? = H[r]?) : zz_W K A ad (zx_c K ad (zg E (1 + f) i v) cap N G L) H1 := by
  rw [hx] at hat
  refine h.put 4 f (e1 := .inl (K.2.1 0, 13, .inl (upd (E (1 + f)) i v))) (by simp [zx_c, hf]; rfl) ?_ hat ho (fun k' i' hn => ?_)
  · have e : zg E (1 + f) i v (1 + f) = upd (E (1 + f)) i v := by
      funext j
      by_cases hj : j = i
      · subst hj; simp [zg, upd]
      · simp [zg, upd, hj]
    simp [zx_c, hf, e]
  · match k' with
    | 0 => simp [zx_c]
    | 1 => simp [zx_c, zg, show (0 : Nat) ≠ 1 + f by omega]
    | 2 => rfl
    | 3 => rfl
    | 4 =>
      have hj : i' ≠ f := fun q => hn ⟨rfl, q⟩
      have e : zg E (1 + f) i v (1 + i') = E (1 + i') := by
        funext j
        simp [zg, hj]
      simp [zx_c, e]
    | 5 => rfl
    | k + 6 => rfl
end ZX2
/-! the small functions that the class and the reference share -/
def zw_want (o n : Nat) : Int32 := if o = 0 then nI 150 else nI (210 + (4 * n))
def zw_chg (o n : Nat) (w : Int32) : Int32 := (zw_want o n - w) / nI 4
def zw_use (o n : Nat) (w : Int32) : Int32 := if o = 0 then nI 0 else (if 0 ≤ zw_chg o n w then zw_chg o n w else 0 - zw_chg o n w)
def zw_air (o n : Nat) (a : Int32) : Int32 := if (a + nI (25 * n)) - nI (if o = 0 then 10 else 30) < nI 400 then nI 400 else (a + nI (25 * n)) - nI (if o = 0 then 10 else 30)
def zw_one (w a : Int32) : Int32 := if a ≤ nI 500 then (if 0 ≤ w - nI 215 then w - nI 215 else 0 - (w - nI 215)) / nI 10 else (if 0 ≤ w - nI 215 then w - nI 215 else 0 - (w - nI 215)) / nI 10 + nI 1
def zs_j1 (N : Nat → Nat → Nat) (q : Nat) : Nat → Nat → Nat := if N 6 q = 0 then N else zu N 5 q (if N 8 q = 0 then N 5 q - 1 else min (N 5 q + 1) 10)
def zk_fo (E : Nat → Nat → Int32) (f n : Nat) : Nat → Nat → Int32 := fun k i => if k = 1 + f ∧ i < n then 2147483647 else E k i
theorem zk_fo_0 (E : Nat → Nat → Int32) (f : Nat) : zk_fo E f 0 = E := by
  funext k i; simp [zk_fo]
theorem zk_fo_s (E : Nat → Nat → Int32) (f n : Nat) : zg (zk_fo E f n) (1 + f) n 2147483647 = zk_fo E f (n + 1) := by
  funext k i
  unfold zg zk_fo
  by_cases hk : k = 1 + f
  · subst hk
    by_cases hi : i = n
    · subst hi; simp
    · simp only [if_true, if_neg hi, true_and]
      by_cases h2 : i < n
      · rw [if_pos h2, if_pos (by omega)]
      · rw [if_neg h2, if_neg (by omega)]
  · simp [hk]
def zk_of (E : Nat → Nat → Int32) (f a : Nat) (v : Int32) : Nat → Nat → Int32 := if a < 13 ∧ v < E (1 + f) a then zg E (1 + f) a v else E
theorem zz_dn {s : Nat} (h : s ≤ 10) : (if nI 0 < (if nI 10 < nI s - nI 1 then nI 10 else nI s - nI 1) then (if nI 10 < nI s - nI 1 then nI 10 else nI s - nI 1) else nI 0) = nI (s - 1) := by
  have h : s < 11 := by omega
  revert h; revert s; decide
theorem zz_upst {s : Nat} (h : s ≤ 10) : (if nI 0 < (if nI 10 < nI (s + 1) then nI 10 else nI (s + 1)) then (if nI 10 < nI (s + 1) then nI 10 else nI (s + 1)) else nI 0) = nI (min (s + 1) 10) := by
  have h : s < 11 := by omega
  revert h; revert s; decide
