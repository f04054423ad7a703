/-! PURE: look, years -/
def nLike (f : Nat → Int32) (x B : Int32) : Nat → Nat
  | 0 => 0
  | v + 1 => if bitOn B (nI v) ∧ f (v + 1) = x then nLike f x B v + 1 else nLike f x B v
theorem nLike_le {f : Nat → Int32} {x B : Int32} : ∀ k, nLike f x B k ≤ k
  | 0 => Nat.le_refl 0
  | k + 1 => by
    have h := nLike_le (f := f) (x := x) (B := B) k
    unfold nLike
    split <;> omega
theorem like_nat {f : Nat → Int32} {x B : Int32} : ∀ k, cLike f x B k = nI (nLike f x B k)
  | 0 => rfl
  | k + 1 => by
    unfold cLike nLike
    rw [like_nat k, nI_pred]
    by_cases h : bitOn B (nI k) ∧ f (k + 1) = x
    · rw [if_pos h, if_pos h]; exact nI_1 _
    · rw [if_neg h, if_neg h]
theorem same_nat {f g : Nat → Int32} {B : Int32} {c a : Nat} (hg : ∀ u, u < 9 → g (9 * c + u) = f (u + 1)) (ha : a < 9) : ∀ k, k ≤ 9 → mSame g B c a k = nI (if bitOn B (nI a) then nLike f (f (a + 1)) B k else 0)
  | 0, _ => by
    show (0 : Int32) = _
    split <;> rfl
  | k + 1, hk => by
    unfold mSame nLike
    rw [same_nat hg ha k (by omega), hg a ha, hg k (by omega)]
    by_cases h1 : bitOn B (nI a)
    · rw [if_pos h1, if_pos h1]
      by_cases h2 : bitOn B (nI k) ∧ f (k + 1) = f (a + 1)
      · rw [if_pos h2, if_pos ⟨h1, h2.1, h2.2.symm⟩]; exact nI_1 _
      · have h3 : ¬ (bitOn B (nI a) ∧ bitOn B (nI k) ∧ f (a + 1) = f (k + 1)) := fun q => h2 ⟨q.2.1, q.2.2.symm⟩
        rw [if_neg h2, if_neg h3]; exact Int32.add_zero _
    · have h3 : ¬ (bitOn B (nI a) ∧ bitOn B (nI k) ∧ f (a + 1) = f (k + 1)) := fun q => h1 q.1
      rw [if_neg h1, if_neg h1, if_neg h3]; exact Int32.add_zero _
def nW (L : Nat → Nat) : Nat → Nat
  | 0 => 0
  | k + 1 => if nW L k < L k then L k else nW L k
theorem nW_ge {L : Nat → Nat} : ∀ k v, v < k → L v ≤ nW L k
  | k + 1, v, hv => by
    unfold nW
    by_cases h : v = k
    · subst h; split <;> omega
    · have := nW_ge (L := L) k v (by omega)
      split <;> omega
theorem nW_le {L : Nat → Nat} {M : Nat} : ∀ k, (∀ v, v < k → L v ≤ M) → nW L k ≤ M
  | 0, _ => Nat.zero_le M
  | k + 1, h => by
    have h1 := nW_le (L := L) (M := M) k (fun v hv => h v (by omega))
    have h2 := h k (by omega)
    unfold nW
    split <;> omega
theorem worst_nat {f : Nat → Int32} {B : Int32} : ∀ k, cWorst f B k = nI (nW (fun v => nLike f (f (v + 1)) B 9) k)
  | 0 => rfl
  | k + 1 => by
    have hb : nW (fun v => nLike f (f (v + 1)) B 9) k ≤ 9 := nW_le k (fun v _ => nLike_le 9)
    have hl : nLike f (f (k + 1)) B 9 ≤ 9 := nLike_le 9
    unfold cWorst nW
    rw [worst_nat k, like_nat 9]
    by_cases h : nW (fun v => nLike f (f (v + 1)) B 9) k < nLike f (f (k + 1)) B 9
    · rw [if_pos h, if_pos ((nI_ltI (by omega) (by omega)).mpr h)]
    · rw [if_neg h, if_neg (fun q => h ((nI_ltI (by omega) (by omega)).mp q))]
theorem mworst_nat {f g : Nat → Int32} {B : Int32} {c : Nat} (hg : ∀ u, u < 9 → g (9 * c + u) = f (u + 1)) : ∀ k, k ≤ 9 → mWorst g B c k = nI (nW (fun a => if bitOn B (nI a) then nLike f (f (a + 1)) B 9 else 0) k)
  | 0, _ => rfl
  | k + 1, hk => by
    have hb : nW (fun a => if bitOn B (nI a) then nLike f (f (a + 1)) B 9 else 0) k ≤ 9 := nW_le k (fun v _ => by
      show (if bitOn B (nI v) then nLike f (f (v + 1)) B 9 else 0) ≤ 9
      have := nLike_le (f := f) (x := f (v + 1)) (B := B) 9
      split <;> omega)
    have hl : (if bitOn B (nI k) then nLike f (f (k + 1)) B 9 else 0) ≤ 9 := by
      have := nLike_le (f := f) (x := f (k + 1)) (B := B) 9
      split <;> omega
    unfold mWorst nW
    rw [mworst_nat hg k (by omega), same_nat hg (by omega) 9 (Nat.le_refl 9)]
    by_cases h : nW (fun a => if bitOn B (nI a) then nLike f (f (a + 1)) B 9 else 0) k < (if bitOn B (nI k) then nLike f (f (k + 1)) B 9 else 0)
    · rw [if_pos h, if_neg (fun q => absurd ((nI_leI (by omega) (by omega)).mp q) (by omega))]
    · rw [if_neg h, if_pos ((nI_leI (by omega) (by omega)).mpr (by omega))]
theorem nLike_pos {f : Nat → Int32} {x B : Int32} : ∀ k, 0 < nLike f x B k → ∃ u, u < k ∧ bitOn B (nI u) ∧ f (u + 1) = x
  | k + 1, h => by
    unfold nLike at h
    by_cases h1 : bitOn B (nI k) ∧ f (k + 1) = x
    · exact ⟨k, by omega, h1.1, h1.2⟩
    · rw [if_neg h1] at h
      obtain ⟨u, a, b⟩ := nLike_pos k h
      exact ⟨u, by omega, b⟩
theorem nW_same {f : Nat → Int32} {B : Int32} : nW (fun v => nLike f (f (v + 1)) B 9) 9 = nW (fun a => if bitOn B (nI a) then nLike f (f (a + 1)) B 9 else 0) 9 := by
  refine Nat.le_antisymm (nW_le 9 (fun v hv => ?_)) (nW_le 9 (fun v hv => ?_))
  · by_cases h0 : nLike f (f (v + 1)) B 9 = 0
    · show nLike f (f (v + 1)) B 9 ≤ _
      omega
    · obtain ⟨u, hu, hb, he⟩ := nLike_pos (f := f) (x := f (v + 1)) (B := B) 9 (by omega)
      have h1 := nW_ge (L := fun a => if bitOn B (nI a) then nLike f (f (a + 1)) B 9 else 0) 9 u hu
      simp only [if_pos hb, he] at h1
      exact h1
  · have h1 := nW_ge (L := fun v => nLike f (f (v + 1)) B 9) 9 v hv
    show (if bitOn B (nI v) then nLike f (f (v + 1)) B 9 else 0) ≤ _
    split
    · exact h1
    · omega
theorem w_eq {FB FM : Nat → Nat → Int32} {sd p1 B : Int32} {n s c : Nat} (hn : n ≤ 6) (hs : s < 6) (hc : c < 10) (hR : okRows FB FM) : cLkW FB sd n (nI s) p1 B c = mWb (mG FM sd n s p1) B c ∧ ∃ t, t ≤ 9 ∧ mWb (mG FM sd n s p1) B c = nI t := by
  have hg : ∀ u, u < 9 → mG FM sd n s p1 (9 * c + u) = cByP FB sd n (nI c) p1 (nI s) (u + 1) := by
    intro u hu
    show mTo (mP5 FM s (nI ((9 * c + u) % 9 + 1))) sd n (nI ((9 * c + u) / 9)) p1 = cComes FB sd n (nI c) p1 (nI s) (nI (u + 1))
    rw [show (9 * c + u) % 9 = u by omega, show (9 * c + u) / 9 = c by omega, chg_eq hn hs hR]
  unfold mWb
  rw [mworst_nat hg 9 (Nat.le_refl 9), ← nW_same]
  exact ⟨worst_nat 9, _, nW_le 9 (fun v _ => nLike_le 9), rfl⟩
theorem bit0 : ∀ a, a < 9 → ¬ bitOn 0 (nI a) := by decide +kernel
theorem same0 {g : Nat → Int32} {c a : Nat} (ha : a < 9) : ∀ k, mSame g 0 c a k = 0
  | 0 => rfl
  | k + 1 => by
    have h3 : ¬ (bitOn 0 (nI a) ∧ bitOn 0 (nI k) ∧ g (9 * c + a) = g (9 * c + k)) := fun q => bit0 a ha q.1
    unfold mSame
    rw [same0 ha k, if_neg h3]; rfl
theorem worst0 {g : Nat → Int32} {c : Nat} : ∀ k, k ≤ 9 → mWorst g 0 c k = 0
  | 0, _ => rfl
  | k + 1, hk => by
    unfold mWorst
    rw [worst0 k (by omega), same0 (by omega) 9]
    rfl
theorem best0 {w : Nat → Int32} (h : ∀ c, w c = 0) : ∀ k, mBest w 0 k = -1 ∧ mLeast w 0 k = 0
  | 0 => ⟨rfl, rfl⟩
  | k + 1 => by
    obtain ⟨a, b⟩ := best0 h k
    show (if mLeast w 0 k ≤ w k then mBest w 0 k else nI k) = -1 ∧ (if mLeast w 0 k ≤ w k then mLeast w 0 k else w k) = 0
    rw [a, b, h k]
    exact ⟨if_pos (by decide), if_pos (by decide)⟩
theorem best_eq {w w' : Nat → Int32} (hw : ∀ c, c < 10 → w c = w' c ∧ ∃ t, t ≤ 9 ∧ w' c = nI t) : ∀ k, k ≤ 10 → 0 < k → cBest w k = mBest w' 268435456 k ∧ cFew w k = mLeast w' 268435456 k
  | 1, _, _ => by
    obtain ⟨e, t, ht, e2⟩ := hw 0 (by omega)
    have h1 : ¬ (10 : Int32) ≤ nI t := nI_ge (a := t) (b := 10) (by omega) (by decide)
    have h2 : ¬ (268435456 : Int32) ≤ nI t := nI_ge (a := t) (b := 268435456) (by omega) (by decide)
    show (if ¬ (10 : Int32) ≤ w 0 then nI 0 else -1) = (if (268435456 : Int32) ≤ w' 0 then -1 else nI 0) ∧ (if ¬ (10 : Int32) ≤ w 0 then w 0 else 10) = (if (268435456 : Int32) ≤ w' 0 then 268435456 else w' 0)
    rw [e, e2, if_pos h1, if_neg h2, if_pos h1, if_neg h2]
    exact ⟨rfl, rfl⟩
  | k + 2, hk, _ => by
    obtain ⟨a, b⟩ := best_eq hw (k + 1) (by omega) (by omega)
    obtain ⟨e, -⟩ := hw (k + 1) (by omega)
    show (if ¬ cFew w (k + 1) ≤ w (k + 1) then nI (k + 1) else cBest w (k + 1)) = (if mLeast w' 268435456 (k + 1) ≤ w' (k + 1) then mBest w' 268435456 (k + 1) else nI (k + 1)) ∧ (if ¬ cFew w (k + 1) ≤ w (k + 1) then w (k + 1) else cFew w (k + 1)) = (if mLeast w' 268435456 (k + 1) ≤ w' (k + 1) then mLeast w' 268435456 (k + 1) else w' (k + 1))
    rw [a, b, e]
    by_cases h : mLeast w' 268435456 (k + 1) ≤ w' (k + 1)
    · rw [if_neg (fun q => q h), if_pos h, if_neg (fun q => q h), if_pos h]; exact ⟨rfl, rfl⟩
    · rw [if_pos h, if_neg h, if_pos h, if_neg h]; exact ⟨rfl, rfl⟩
theorem lookN_eq {FB FM : Nat → Nat → Int32} {sd p1 : Int32} {n fd s : Nat} (hn : n ≤ 6) (hf : fd ≤ 6) (hs : s < 6) (hR : okRows FB FM) (hF : okFnd FB FM) : (if cHeavy FB sd n fd (nI s) = 0 then (-1 : Int32) else cBest (cLkW FB sd n (nI s) p1 (cHeavy FB sd n fd (nI s))) 10) = mLookN FM sd n fd s p1 := by
  rw [heavy_eq hn hf hs hR hF]
  unfold mLookN mL0 mW
  generalize mHeavy FM sd n fd s = B
  by_cases h : B = 0
  · subst h
    rw [if_pos rfl, if_pos rfl]
    exact (best0 (fun c => worst0 9 (Nat.le_refl 9)) 10).1.symm
  · rw [if_neg h, if_neg h]
    exact (best_eq (fun c hc => w_eq hn hs hc hR) 10 (Nat.le_refl 10) (by omega)).1
theorem look_eq {FB FM : Nat → Nat → Int32} {sd p0 p1 : Int32} {n fd : Nat} (hn : n ≤ 6) (hf : fd ≤ 6) (hR : okRows FB FM) (hF : okFnd FB FM) : cLook FB sd n fd p0 p1 = mLook FM sd n fd p0 p1 := by
  unfold cLook mLook
  by_cases h0 : okS n p0
  · rw [if_pos h0, if_pos h0]
    obtain ⟨k, hk, rfl⟩ := okS_nat hn h0
    rw [nI_clamp (by omega), lookN_eq hn hf (by omega) hR hF]
  · rw [if_neg h0, if_neg h0]
theorem land31 (a : Nat) (h : a < 2 ^ 63) : lN a &&& (2147483647 : Int64) = lN (a % 2147483648) := by
  have e : lN a &&& (2147483647 : Int64) = lN (a &&& 2147483647) := by
    apply Int64.toBitVec_inj.mp
    apply BitVec.eq_of_toNat_eq
    have e1 : (lN a).toBitVec.toNat = a := by
      show (BitVec.ofNat 64 a).toNat = a
      rw [BitVec.toNat_ofNat]; omega
    have e2 : (lN (a &&& 2147483647)).toBitVec.toNat = a &&& 2147483647 := by
      have : a &&& 2147483647 ≤ 2147483647 := Nat.and_le_right
      show (BitVec.ofNat 64 (a &&& 2147483647)).toNat = _
      rw [BitVec.toNat_ofNat]; omega
    rw [e2, Int64.toBitVec_and, BitVec.toNat_and, e1]
    rfl
  rw [e]
  congr 1
  exact Nat.and_two_pow_sub_one_eq_mod a 31
theorem sd_nat {a : Nat} (ha : a < 2 ^ 31) : cSd (nI a) = nI ((1103515245 * a + 12345) % 2147483648) ∧ mSd (lN a) = lN ((1103515245 * a + 12345) % 2147483648) := by
  have e1 : (nI a).toInt64 = lN a := nI_l ha
  have e2 : (1103515245 : Int64) * lN a + (12345 : Int64) = lN (1103515245 * a + 12345) := by
    show lN 1103515245 * lN a + lN 12345 = _
    rw [lN_mul, lN_add]
  constructor
  · unfold cSd
    rw [e1, e2]
    have h := pk_lRem (a := 1103515245 * a + 12345) (b := 2147483648) (by omega) (by omega) (by omega)
    show (lN (1103515245 * a + 12345) - lN (1103515245 * a + 12345) / lN 2147483648 * lN 2147483648).toInt32 = _
    rw [h, lN_i]
  · unfold mSd
    rw [e2, land31 _ (by omega)]
theorem seeds_nat {p1 : Int32} (h : ¬ p1 < 0) : ∀ k, ∃ a, a < 2 ^ 31 ∧ cSeeds p1 k = nI a ∧ mSeeds p1.toInt64 k = lN a
  | 0 => by
    obtain ⟨j, hj, rfl⟩ := nI_of h
    exact ⟨j, hj, rfl, nI_l hj⟩
  | k + 1 => by
    obtain ⟨a, ha, e1, e2⟩ := seeds_nat h k
    refine ⟨(1103515245 * a + 12345) % 2147483648, by omega, ?_, ?_⟩
    · show cSd (cSeeds p1 k) = _
      rw [e1]; exact (sd_nat ha).1
    · show mSd (mSeeds p1.toInt64 k) = _
      rw [e2]; exact (sd_nat ha).2
theorem min_nat {a : Nat} (ha : a < 2 ^ 31) : cMin (nI a) = mMin (lN a) := by
  have e1 : cMin (nI a) = nI (a / 65536 % 21) := by
    unfold cMin
    show nI a / nI 65536 - nI a / nI 65536 / nI 21 * nI 21 = _
    rw [pk_div ha (by omega) (by omega), pk_rem (by omega) (by omega) (by omega)]
  have e2 : mMin (lN a) = nI (a / 65536 % 21) := by
    unfold mMin
    show (lN a / lN 65536 - lN a / lN 65536 / lN 21 * lN 21).toInt32 = _
    rw [pk_lDiv (by omega) (by omega) (by omega), pk_lRem (by omega) (by omega) (by omega), lN_i]
  rw [e1, e2]
theorem rowN_in {g f : Nat → Int32} {i c : Nat} (h : c < i) : rowN g f i c = g c := by unfold rowN; rw [if_pos h]
theorem yrow_eq {FB FM : Nat → Nat → Int32} {sd p1 : Int32} {n : Nat} {r r' : Nat → Int32} (hn : n ≤ 6) (hR : okRows FB FM) (hp : ¬ p1 < 0) (hr : ∀ c, c < 10 → r c = r' c) : ∀ k c, c < 10 → cYRow FB sd n r p1 k c = mYRow FM sd n r' p1.toInt64 k c
  | 0, c, hc => hr c hc
  | k + 1, c, hc => by
    obtain ⟨a, ha, e1, e2⟩ := seeds_nat hp (k + 1)
    show rowN (cPress FB sd n (cMin (cSeeds p1 (k + 1))) (cYRow FB sd n r p1 k)) (cYRow FB sd n r p1 k) 10 c = rowN (mPress FM sd n (mMin (mSeeds p1.toInt64 (k + 1))) (mYRow FM sd n r' p1.toInt64 k)) (mYRow FM sd n r' p1.toInt64 k) 10 c
    rw [rowN_in hc, rowN_in hc, e1, e2, min_nat ha]
    exact press_eq hn hR (yrow_eq hn hR hp hr k c hc)
theorem years_eq {FB FM : Nat → Nat → Int32} {sd p0 p1 p2 : Int32} {n : Nat} {r r' : Nat → Int32} (hn : n ≤ 6) (hR : okRows FB FM) (hr : ∀ c, c < 10 → r c = r' c) : cYears n (cYRow FB sd n r p1 p0.toNatClampNeg) (cSeeds p1 p0.toNatClampNeg) p0 p1 p2 = mYears n (mYRow FM sd n r' p1.toInt64 p0.toNatClampNeg) (mSeeds p1.toInt64 p0.toNatClampNeg) p0 p1 p2 := by
  unfold cYears mYears
  by_cases h : okY p0 p1 p2
  · rw [if_pos h, if_pos h]
    by_cases h0 : 0 < n
    · rw [if_pos h0, if_pos h0]
      have hrow := yrow_eq (sd := sd) hn hR h.2.2.1 hr p0.toNatClampNeg
      obtain ⟨a, ha, e1, e2⟩ := seeds_nat h.2.2.1 p0.toNatClampNeg
      unfold mYearsN mDryN
      rw [if_pos h0, sumN_congr 10 hrow, dry_eq 10 hrow, e1, e2, lN_i]
    · rw [if_neg h0, if_neg h0]
  · rw [if_neg h, if_neg h]
