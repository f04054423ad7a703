/-! PURE: sanding, writing, toSand -/
theorem rng {x : Int32} (N : Nat) (hN : N < 1000000) (h1 : ¬ x < 0) (h2 : ¬ nI N < x) : ∃ j : Nat, j ≤ N ∧ x = nI j := by
  rcases pk_ix x (n := N + 1) (by omega) with h | h | ⟨j, hj, h⟩
  · exact absurd h h1
  · exact absurd (Int32.lt_of_lt_of_le ((nI_ltI (a := N) (b := N + 1) (by omega) (by omega)).mpr (by omega)) h) h2
  · exact ⟨j, by omega, h⟩
theorem sd_off : ∀ n, n < 7 → ∀ w, w < 2 ^ n → ∀ k, k < n → (nI w &&& (((1 : Int32) <<< (nI k &&& 31)) ^^^ (-1 : Int32))).toNatClampNeg < 2 ^ n ∧ nI w &&& (((1 : Int32) <<< (nI k &&& 31)) ^^^ (-1 : Int32)) = nI (nI w &&& (((1 : Int32) <<< (nI k &&& 31)) ^^^ (-1 : Int32))).toNatClampNeg := by decide +kernel
theorem sd_on : ∀ n, n < 7 → ∀ w, w < 2 ^ n → ∀ k, k < n → (nI w ||| ((1 : Int32) <<< (nI k &&& 31))).toNatClampNeg < 2 ^ n ∧ nI w ||| ((1 : Int32) <<< (nI k &&& 31)) = nI (nI w ||| ((1 : Int32) <<< (nI k &&& 31))).toNatClampNeg := by decide +kernel
theorem put_ok {n w : Nat} {x z : Int32} (hn : n ≤ 6) (hw : w < 2 ^ n) (h : okS n x) : ∃ w', w' < 2 ^ n ∧ cPut (nI w) x z = nI w' := by
  obtain ⟨k, hk, rfl⟩ := okS_nat hn h
  unfold cPut
  by_cases hz : z = 0
  · rw [if_pos hz]
    have := sd_off n (by omega) w hw k hk
    exact ⟨_, this.1, this.2⟩
  · rw [if_neg hz]
    have := sd_on n (by omega) w hw k hk
    exact ⟨_, this.1, this.2⟩
theorem sd_new : ∀ n, n < 7 → ∀ w, w < 2 ^ n → nI w &&& ((1 <<< (nI n &&& 31)) ^^^ (-1)) = nI w := by decide +kernel
theorem long_ok : ∀ a, a < 10 → ∀ b, b < 6 → ¬ b = 0 → (if (10 : Int32) - nI a < nI b then (10 : Int32) - nI a else nI b) = mLong (nI a) (nI b) ∧ (mLong (nI a) (nI b)).toNatClampNeg < 6 ∧ a + (mLong (nI a) (nI b)).toNatClampNeg ≤ 10 ∧ mLong (nI a) (nI b) = nI (mLong (nI a) (nI b)).toNatClampNeg := by decide +kernel
theorem nI_z {t : Nat} (h : t < 2 ^ 31) : nI t = 0 ↔ t = 0 := nI_eq (b := 0) h (by omega)
theorem long_eq {p1 p2 : Int32} (h1 : ∃ a : Nat, a ≤ 9 ∧ p1 = nI a) (h2 : ∃ b : Nat, b ≤ 5 ∧ p2 = nI b) (h3 : ¬ p2 < 1) : (if (10 : Int32) - p1 < p2 then (10 : Int32) - p1 else p2) = mLong p1 p2 := by
  obtain ⟨a, ha, rfl⟩ := h1
  obtain ⟨b, hb2, rfl⟩ := h2
  exact (long_ok a (by omega) b (by omega) (fun q => h3 (by rw [q]; decide))).1
theorem okSt_of {p0 p1 p2 p3 : Int32} (h0 : ∃ a : Nat, a ≤ 4 ∧ p0 = nI a) (h1 : ∃ a : Nat, a ≤ 9 ∧ p1 = nI a) (h2 : ∃ b : Nat, b ≤ 5 ∧ p2 = nI b) (h3 : ¬ p2 < 1) (h4 : ∃ a : Nat, a ≤ 9 ∧ p3 = nI a) : okSt p0 p1 (mLong p1 p2) p3 := by
  obtain ⟨x, hx2, rfl⟩ := h0
  obtain ⟨a, ha, rfl⟩ := h1
  obtain ⟨b, hb2, rfl⟩ := h2
  obtain ⟨y, hy, rfl⟩ := h4
  obtain ⟨-, l1, l2, l3⟩ := long_ok a (by omega) b (by omega) (fun q => h3 (by rw [q]; decide))
  exact ⟨x, a, _, y, hx2, ha, l2, by omega, hy, rfl, rfl, l3, rfl⟩
theorem okW_n {p0 p1 p2 p3 : Int32} (h : okW p0 p1 p2 p3) : (∃ a : Nat, a ≤ 4 ∧ p0 = nI a) ∧ (∃ a : Nat, a ≤ 9 ∧ p1 = nI a) ∧ (∃ b : Nat, b ≤ 5 ∧ p2 = nI b) ∧ ¬ p2 < 1 ∧ (∃ a : Nat, a ≤ 9 ∧ p3 = nI a) := by
  obtain ⟨h0, h1, h2, h3, h4, h5⟩ := h
  have z : ∀ {x : Int32}, ¬ x < 1 → ¬ x < 0 := fun q q2 => q (Int32.lt_trans q2 (by decide))
  obtain ⟨k, hk, e1⟩ := okCell_nat h1
  exact ⟨rng 4 (by decide) h0.1 h0.2, ⟨k, by omega, e1⟩, rng 5 (by decide) (z h2) h3, h2, rng 9 (by decide) (z h4) h5⟩
/-- a stroke's share of what comes, were it not sanded -/
def gS (F : Nat → Nat → Int32) (k : Nat) (c m : Int32) : Int32 := cGives (F 3 k) (F 4 k) (F 2 k) c (cWet (nI k) (F 2 k) m (F 5 k))
theorem mOf_g {F : Nat → Nat → Int32} {sd c m : Int32} {k : Nat} (h : okSt (F 2 k) (F 3 k) (F 4 k) (F 5 k)) : mOf F sd k c m = if bitOn sd (nI k) then 0 else gS F k c m := (term_eq (FM := F) (pr := F 5 k) h rfl rfl rfl rfl).symm
theorem wet12 : ∀ k, k < 6 → ∀ kd, kd < 5 → ∀ t, t < 21 → ∀ pr, pr < 10 → (cWet (nI k) (nI kd) (nI t) (nI pr)).toNatClampNeg ≤ 12 ∧ cWet (nI k) (nI kd) (nI t) (nI pr) = nI (cWet (nI k) (nI kd) (nI t) (nI pr)).toNatClampNeg := by decide +kernel
theorem half12 : ∀ t, t < 13 → nI t / 2 = nI (t / 2) := by decide +kernel
theorem gS_nat {F : Nat → Nat → Int32} {c m : Int32} {k : Nat} (hk : k < 6) (h : okSt (F 2 k) (F 3 k) (F 4 k) (F 5 k)) (hm : okMin m) : ∃ t : Nat, t ≤ 12 ∧ gS F k c m = nI t := by
  obtain ⟨mm, hmm, rfl⟩ := rng 20 (by decide) hm.1 hm.2
  obtain ⟨a, b, d, e, ha, hb1, hbd, hd, he, e1, e2, e3, e4⟩ := h
  unfold gS
  rw [e1, e4]
  obtain ⟨w1, w2⟩ := wet12 k hk a (by omega) mm (by omega) e (by omega)
  rw [w2]
  generalize (cWet (nI k) (nI a) (nI mm) (nI e)).toNatClampNeg = t at w1
  unfold cGives
  split
  · exact ⟨t, w1, rfl⟩
  · split
    · exact ⟨t / 2, by omega, half12 t (by omega)⟩
    · exact ⟨0, by omega, rfl⟩
theorem sum0 {f : Nat → Int32} : ∀ n, n ≤ 6 → (∀ k, k < n → ∃ t : Nat, t ≤ 12 ∧ f k = nI t) → ∃ T : Nat, T ≤ 12 * n ∧ sumN f n = nI T ∧ (T = 0 ↔ ∀ k, k < n → f k = 0)
  | 0, _, _ => ⟨0, by omega, rfl, fun _ k hk => absurd hk (by omega), fun _ => rfl⟩
  | n + 1, hn, h => by
    obtain ⟨T, h1, h2, h3⟩ := sum0 n (by omega) (fun k hk => h k (by omega))
    obtain ⟨t, t1, t2⟩ := h n (by omega)
    refine ⟨T + t, by omega, ?_, ?_⟩
    · unfold sumN
      rw [h2, t2, nI_add]
    · constructor
      · intro h0 k hk
        by_cases hkn : k = n
        · rw [hkn, t2, show t = 0 by omega]; rfl
        · exact h3.mp (by omega) k (by omega)
      · intro hz
        have a1 := h3.mpr (fun k hk => hz k (by omega))
        have a2 := hz n (by omega)
        rw [t2] at a2
        have := (nI_z (t := t) (by omega)).mp a2
        omega
theorem bit_or {x y : Int32} {k : Nat} : bitOn (x ||| y) (nI k) ↔ bitOn x (nI k) ∨ bitOn y (nI k) := by
  show ((x ||| y) >>> (nI k &&& 31)) &&& 1 = 1 ↔ (x >>> (nI k &&& 31)) &&& 1 = 1 ∨ (y >>> (nI k &&& 31)) &&& 1 = 1
  have ed : ∀ a b d : Int32, (a ||| b) &&& d = (a &&& d) ||| (b &&& d) := fun a b d => Int32.toBitVec_inj.mp (by simp only [Int32.toBitVec_and, Int32.toBitVec_or]; exact BitVec.eq_of_getLsbD_eq (fun i _ => by simp [BitVec.getLsbD_and, BitVec.getLsbD_or, Bool.and_or_distrib_right]))
  rw [Int32.shiftRight_or, ed]
  obtain ⟨i, hi, e1⟩ := pk_andE (x >>> (nI k &&& 31)) (m := 1) 1 rfl
  obtain ⟨j, hj, e2⟩ := pk_andE (y >>> (nI k &&& 31)) (m := 1) 1 rfl
  rw [e1, e2]
  match i, hi, j, hj with
  | 0, _, 0, _ => decide
  | 0, _, 1, _ => decide
  | 1, _, 0, _ => decide
  | 1, _, 1, _ => decide
  | i + 2, h, _, _ => omega
  | _, _, j + 2, h => omega
/-- what of the strokes reaches one of the cells -/
def RR (F : Nat → Nat → Int32) (m cells : Int32) (k : Nat) : Prop := ∃ c, c < 10 ∧ bitOn cells (nI c) ∧ ¬ gS F k (9 - nI c) m = 0
theorem dryAt_iff {FM : Nat → Nat → Int32} {sd m cells : Int32} {n : Nat} (hn : n ≤ 6) (hR : ∀ k, k < 6 → okSt (FM 2 k) (FM 3 k) (FM 4 k) (FM 5 k)) (hm : okMin m) : mDryAt FM sd n m cells ↔ ∀ k, k < n → RR FM m cells k → bitOn sd (nI k) := by
  have key : ∀ c, (mTo FM sd n (nI c) m = 0 ↔ ∀ k, k < n → ¬ bitOn sd (nI k) → gS FM k (9 - nI c) m = 0) := by
    intro c
    have hf : ∀ k, k < n → ∃ t : Nat, t ≤ 12 ∧ mOf FM sd k (9 - nI c) m = nI t := by
      intro k hk
      rw [mOf_g (hR k (by omega))]
      split
      · exact ⟨0, by omega, rfl⟩
      · exact gS_nat (by omega) (hR k (by omega)) hm
    obtain ⟨T, h1, h2, h3⟩ := sum0 n hn hf
    unfold mTo
    rw [h2, nI_z (by omega), h3]
    constructor
    · intro h k hk hb1
      have := h k hk
      rw [mOf_g (hR k (by omega)), if_neg hb1] at this
      exact this
    · intro h k hk
      rw [mOf_g (hR k (by omega))]
      split
      · rfl
      · rename_i hb1; exact h k hk hb1
  constructor
  · intro h k hk ⟨c, hc, b1, b2⟩
    rcases h c hc with h1 | h1
    · exact absurd b1 h1
    · by_cases hb1 : bitOn sd (nI k)
      · exact hb1
      · exact absurd ((key c).mp h1 k hk hb1) b2
  · intro h c hc
    by_cases hb1 : bitOn cells (nI c)
    · refine Or.inr ((key c).mpr (fun k hk hb2 => ?_))
      by_cases h0 : gS FM k (9 - nI c) m = 0
      · exact h0
      · exact absurd (h k hk ⟨c, hc, hb1, h0⟩) hb2
    · exact Or.inl hb1
