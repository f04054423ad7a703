/-! PURE: what class and reference answer is the same, under what holds of their states -/
theorem sumN_congr {f g : Nat → Int32} : ∀ n, (∀ k, k < n → f k = g k) → sumN f n = sumN g n
  | 0, _ => rfl
  | n + 1, h => by
    unfold sumN
    rw [sumN_congr n (fun k hk => h k (by omega)), h n (by omega)]
/-- a stroke's numbers are of a stroke -/
def okSt (kd bg cn pr : Int32) : Prop := ∃ a b d e : Nat, a ≤ 4 ∧ b ≤ 9 ∧ b + d ≤ 10 ∧ d ≤ 5 ∧ e ≤ 9 ∧ kd = nI a ∧ bg = nI b ∧ cn = nI d ∧ pr = nI e
/-- the strokes of both sides are the same -/
def okRows (FB FM : Nat → Nat → Int32) : Prop := ∀ k, k < 6 → FB 16 k = FM 2 k ∧ FB 17 k = FM 3 k ∧ FB 18 k = FM 4 k ∧ FB 19 k = FM 5 k ∧ okSt (FB 16 k) (FB 17 k) (FB 18 k) (FB 19 k)
theorem wet_eq (kd pr minute : Int32) (k : Nat) : cWet (nI k) kd minute pr = if minute - nI k < 0 then 0 else if kd = 2 then mFl (pr - (minute - nI k) / 2) else if kd = 3 then mFl (pr - 3 * (minute - nI k)) else if kd = 4 then mFl (pr + (3 - (minute - nI k))) else mFl (pr - (minute - nI k)) := by
  have e1 : ∀ x : Int32, (if (0 : Int32) < x then x else 0) = mFl x := by
    intro x
    unfold mFl
    by_cases h : (0 : Int32) < x
    · rw [if_pos h, if_pos (Int32.le_of_lt h)]
    · rw [if_neg h]
      by_cases h2 : (0 : Int32) ≤ x
      · rw [if_pos h2]; exact Int32.le_antisymm h2 (Int32.not_lt.mp h)
      · rw [if_neg h2]
  have e2 : pr + 3 - (minute - nI k) = pr + (3 - (minute - nI k)) := by grind
  unfold cWet
  rw [e1, e1, e1, e1, e2]
  by_cases h : (0 : Int32) ≤ minute - nI k
  · rw [if_neg (fun q => q h), if_neg (Int32.not_lt.mpr h)]
  · rw [if_pos h, if_pos (Int32.not_le.mp h)]
theorem cell_iff {t : Nat} {x : Int32} (h : t ≤ 10) : (¬ nI t ≤ x) ↔ ¬ nI t - 1 < x := by
  have e1 : (nI t).toInt = t := nI_toInt (by omega)
  have e2 : (nI t - 1).toInt = (t : Int) - 1 := by
    match t, h with
    | 0, _ => decide
    | 1, _ => decide
    | 2, _ => decide
    | 3, _ => decide
    | 4, _ => decide
    | 5, _ => decide
    | 6, _ => decide
    | 7, _ => decide
    | 8, _ => decide
    | 9, _ => decide
    | 10, _ => decide
    | t + 11, h => omega
  simp only [Int32.lt_iff_toInt_lt, Int32.le_iff_toInt_le]
  rw [e1, e2]
  omega
theorem half0 : (0 : Int32) / 2 = 0 := by decide
/-- one stroke's share: what the class adds, for a stroke of this press -/
theorem term_eq {FM : Nat → Nat → Int32} {sd c minute kd bg cn pr x : Int32} {k : Nat} (hs : okSt kd bg cn x) (h2 : FM 2 k = kd) (h3 : FM 3 k = bg) (h4 : FM 4 k = cn) (h5 : FM 5 k = pr) :
    (if bitOn sd (nI k) then 0 else cGives bg cn kd c (cWet (nI k) kd minute pr)) = mOf FM sd k c minute := by
  obtain ⟨a, b, d, e, ha, hb, hbd, hd, he, rfl, rfl, rfl, rfl⟩ := hs
  have hi : (¬ nI b + nI d ≤ c) ↔ ¬ nI b + nI d - 1 < c := by rw [nI_add]; exact cell_iff hbd
  have hw : mWet FM sd k minute = if bitOn sd (nI k) then 0 else cWet (nI k) (nI a) minute pr := by
    rw [wet_eq]
    unfold mWet
    rw [h2, h5]
    by_cases hbit : bitOn sd (nI k)
    · rw [if_pos hbit, if_pos hbit]
      split <;> rfl
    · rw [if_neg hbit, if_neg hbit]
  have hA : cIsA (nI a) 1 ↔ (nI a = 1 ∨ nI a = 4) := by
    unfold cIsA
    constructor
    · rintro (h | h | ⟨_, h⟩)
      · exact absurd h (by decide)
      · exact Or.inl h.symm
      · exact Or.inr h
    · rintro (h | h)
      · exact Or.inr (Or.inl h.symm)
      · exact Or.inr (Or.inr ⟨rfl, h⟩)
  unfold mOf cGives
  rw [h2, h3, h4, hw]
  generalize cWet (nI k) (nI a) minute pr = w
  by_cases hbit : bitOn sd (nI k)
  · simp only [if_pos hbit, half0]
    split
    · rfl
    · split <;> rfl
  · simp only [if_neg hbit]
    by_cases h1 : ¬ c < nI b ∧ ¬ nI b + nI d ≤ c
    · rw [if_pos h1, if_pos ⟨h1.1, hi.mp h1.2⟩]
    · have h1' : ¬ (¬ c < nI b ∧ ¬ nI b + nI d - 1 < c) := fun q => h1 ⟨q.1, hi.mpr q.2⟩
      rw [if_neg h1, if_neg h1']
      by_cases h6 : (c = nI b - 1 ∨ c = nI b + nI d) ∧ cIsA (nI a) 1
      · have h6' : (nI a = 1 ∨ nI a = 4) ∧ (c = nI b - 1 ∨ c = nI b + nI d) := ⟨hA.mp h6.2, h6.1⟩
        rw [if_pos h6, if_pos h6']
      · have h6' : ¬ ((nI a = 1 ∨ nI a = 4) ∧ (c = nI b - 1 ∨ c = nI b + nI d)) := fun q => h6 ⟨q.2, hA.mpr q.1⟩
        rw [if_neg h6, if_neg h6']
theorem nI_inj6 {a b : Nat} (ha : a < 6) (hb : b < 6) : nI a = nI b ↔ a = b := nI_eq (by omega) (by omega)
theorem nI_ne_m1 {k : Nat} (h : k < 2 ^ 31) : ¬ nI k = -1 := fun e => nI_pos h (by rw [e]; decide)
theorem now_eq {FB FM : Nat → Nat → Int32} {sd land minute : Int32} {n : Nat} (hn : n ≤ 6) (hR : okRows FB FM) : cNow FB sd n land minute = mTo FM sd n land minute := by
  unfold cNow cComes mTo
  refine sumN_congr n (fun k hk => ?_)
  obtain ⟨r1, r2, r3, r4, r5⟩ := hR k (by omega)
  unfold cTerm
  rw [if_neg (nI_ne_m1 (k := k) (by omega))]
  exact term_eq r5 r1.symm r2.symm r3.symm r4.symm
theorem chg_eq {FB FM : Nat → Nat → Int32} {sd land minute pr : Int32} {n s : Nat} (hn : n ≤ 6) (hs : s < 6) (hR : okRows FB FM) : cComes FB sd n land minute (nI s) pr = mTo (mP5 FM s pr) sd n land minute := by
  unfold cComes mTo
  refine sumN_congr n (fun k hk => ?_)
  obtain ⟨r1, r2, r3, r4, r5⟩ := hR k (by omega)
  unfold cTerm
  have e5 : mP5 FM s pr 5 k = if nI k = nI s then pr else FB 19 k := by
    show upd (FM 5) s pr k = _
    unfold upd
    by_cases h : k = s
    · rw [if_pos h, if_pos (by rw [h])]
    · rw [if_neg h, if_neg (fun q => h ((nI_inj6 (by omega) hs).mp q)), r4]
  exact term_eq (FM := mP5 FM s pr) r5 r1.symm r2.symm r3.symm e5
theorem and1 (x : Int32) : b2 (x &&& 1 = 1) = x &&& 1 := by
  obtain ⟨j, hj, e⟩ := pk_andE x (m := 1) 1 rfl
  unfold b2
  rw [e]
  match j, hj with
  | 0, _ => decide
  | 1, _ => decide
  | j + 2, h => omega
theorem or0 (x : Int32) : x ||| 0 = x := Int32.or_zero
theorem bits_eq {P Q : Nat → Prop} [DecidablePred P] [DecidablePred Q] : ∀ n, (∀ v, v < n → (P v ↔ Q v)) → bitsN P n = mBits Q n
  | 0, _ => rfl
  | n + 1, h => by
    unfold bitsN mBits
    rw [bits_eq n (fun v hv => h v (by omega))]
    by_cases hp : P n
    · rw [if_pos hp, if_pos ((h n (by omega)).mp hp)]
    · rw [if_neg hp, if_neg (fun q => hp ((h n (by omega)).mpr q)), or0]
/-- what is found is the same on both sides -/
def okFnd (FB FM : Nat → Nat → Int32) : Prop := ∀ i, i < 6 → FB 9 i = FM 10 i ∧ FB 10 i = FM 11 i ∧ FB 11 i = FM 12 i
theorem heavy_eq {FB FM : Nat → Nat → Int32} {sd : Int32} {n fd s : Nat} (hn : n ≤ 6) (hf : fd ≤ 6) (hs : s < 6) (hR : okRows FB FM) (hF : okFnd FB FM) : cHeavy FB sd n fd (nI s) = mHeavy FM sd n fd s := by
  unfold cHeavy mHeavy
  refine bits_eq 9 (fun v _ => ?_)
  show (∀ i, i < fd → _) ↔ (∀ i, i < fd → _)
  constructor
  · intro h i hi
    obtain ⟨f1, f2, f3⟩ := hF i (by omega)
    have := h i hi
    rw [chg_eq hn hs hR, f1, f2, f3] at this
    exact this
  · intro h i hi
    obtain ⟨f1, f2, f3⟩ := hF i (by omega)
    rw [chg_eq hn hs hR, f1, f2, f3]
    exact h i hi
theorem six_cases {x : Int32} (h : ¬ x < 0 ∧ ¬ (5 : Int32) < x) : x = 0 ∨ x = 1 ∨ x = 2 ∨ x = 3 ∨ x = 4 ∨ x = 5 := by
  rcases pk_ix x (n := 6) (by decide) with h1 | h1 | ⟨j, hj, rfl⟩
  · exact absurd h1 h.1
  · exact absurd (Int32.lt_of_lt_of_le (by decide : (5 : Int32) < 6) h1) h.2
  · match j, hj with
    | 0, _ => exact Or.inl rfl
    | 1, _ => exact Or.inr (Or.inl rfl)
    | 2, _ => exact Or.inr (Or.inr (Or.inl rfl))
    | 3, _ => exact Or.inr (Or.inr (Or.inr (Or.inl rfl)))
    | 4, _ => exact Or.inr (Or.inr (Or.inr (Or.inr (Or.inl rfl))))
    | 5, _ => exact Or.inr (Or.inr (Or.inr (Or.inr (Or.inr rfl))))
    | j + 6, h => omega
theorem stroke_eq {FB FM : Nat → Nat → Int32} {sd p1 : Int32} {n fd k : Nat} (hn : n ≤ 6) (hf : fd ≤ 6) (hk : k < 6) (hR : okRows FB FM) (hF : okFnd FB FM) (h : p1 = 0 ∨ p1 = 1 ∨ p1 = 2 ∨ p1 = 3 ∨ p1 = 4 ∨ p1 = 5) :
    (if p1 = 0 then FB 16 k else if p1 = 1 then FB 17 k else if p1 = 2 then FB 18 k else if p1 = 3 then FB 19 k else if p1 = 4 then b2 (bitOn sd (nI k)) else if p1 = 5 then cHeavy FB sd n fd (nI k) else -102) = mStroke FM sd n fd k p1 := by
  obtain ⟨r1, r2, r3, r4, -⟩ := hR k hk
  have e4 : b2 (bitOn sd (nI k)) = (sd >>> (nI k &&& 31)) &&& 1 := and1 _
  unfold mStroke
  rw [r1, r2, r3, r4, e4, heavy_eq hn hf hk hR hF]
  rcases h with rfl | rfl | rfl | rfl | rfl | rfl <;> rfl
theorem about_eq {FB FM : Nat → Nat → Int32} {sd p0 p1 : Int32} {n fd : Nat} (hn : n ≤ 6) (hf : fd ≤ 6) (hR : okRows FB FM) (hF : okFnd FB FM) : cAbout FB sd n fd p0 p1 = mAbout FM sd n fd p0 p1 := by
  unfold cAbout mAbout
  by_cases h0 : okS n p0
  · rw [if_pos h0, if_pos h0]
    obtain ⟨k, hk, rfl⟩ := okS_nat hn h0
    rw [nI_clamp (by omega)]
    by_cases h1 : ¬ p1 < 0 ∧ ¬ (5 : Int32) < p1
    · rw [if_pos h1]
      exact stroke_eq hn hf (by omega) hR hF (six_cases h1)
    · rw [if_neg h1]
      have n0 : ¬ p1 = 0 := fun e => h1 (by rw [e]; decide)
      have n1 : ¬ p1 = 1 := fun e => h1 (by rw [e]; decide)
      have n2 : ¬ p1 = 2 := fun e => h1 (by rw [e]; decide)
      have n3 : ¬ p1 = 3 := fun e => h1 (by rw [e]; decide)
      have n4 : ¬ p1 = 4 := fun e => h1 (by rw [e]; decide)
      have n5 : ¬ p1 = 5 := fun e => h1 (by rw [e]; decide)
      rw [if_neg n0, if_neg n1, if_neg n2, if_neg n3, if_neg n4, if_neg n5]
  · rw [if_neg h0, if_neg h0]
theorem as_eq {FB FM : Nat → Nat → Int32} {p0 p1 : Int32} {n : Nat} (hn : n ≤ 6) (hR : okRows FB FM) : cAs FB n p0 p1 = mAs FM n p0 p1 := by
  unfold cAs mAs
  by_cases h0 : okS n p0
  · rw [if_pos h0, if_pos h0]
    obtain ⟨k, hk, rfl⟩ := okS_nat hn h0
    rw [nI_clamp (by omega)]
    obtain ⟨r1, -⟩ := hR k (by omega)
    rw [r1]
    have hi : cIsA (FM 2 k) p1 ↔ (p1 = 0 ∨ FM 2 k = p1 ∨ (p1 = 1 ∧ FM 2 k = 4)) := by
      unfold cIsA
      constructor
      · rintro (h | h | h)
        · exact Or.inl h
        · exact Or.inr (Or.inl h.symm)
        · exact Or.inr (Or.inr h)
      · rintro (h | h | h)
        · exact Or.inl h
        · exact Or.inr (Or.inl h.symm)
        · exact Or.inr (Or.inr h)
    by_cases h2 : cIsA (FM 2 k) p1
    · rw [if_pos h2, if_pos (hi.mp h2)]
    · rw [if_neg h2, if_neg (fun q => h2 (hi.mpr q))]
  · rw [if_neg h0, if_neg h0]
theorem wetS_eq {FB FM : Nat → Nat → Int32} {sd p0 p1 : Int32} {n : Nat} (hn : n ≤ 6) (hR : okRows FB FM) : cWetS FB sd n p0 p1 = mWetS FM sd n p0 p1 := by
  unfold cWetS mWetS
  by_cases h0 : okS n p0
  · rw [if_pos h0, if_pos h0]
    obtain ⟨k, hk, rfl⟩ := okS_nat hn h0
    rw [nI_clamp (by omega), wet_eq]
    obtain ⟨r1, -, -, r4, -⟩ := hR k (by omega)
    rw [r1, r4]
    by_cases h1 : okMin p1
    · rw [if_pos h1, if_pos h1]
      unfold mWet
      by_cases hb : bitOn sd (nI k)
      · rw [if_pos hb, if_pos hb]; split <;> rfl
      · rw [if_neg hb, if_neg hb]
    · rw [if_neg h1, if_neg h1]
  · rw [if_neg h0, if_neg h0]
theorem comesS_eq {FB FM : Nat → Nat → Int32} {sd p0 p1 : Int32} {n : Nat} (hn : n ≤ 6) (hR : okRows FB FM) : cComesS FB sd n p0 p1 = mComesS FM sd n p0 p1 := by
  unfold cComesS mComesS
  rw [now_eq hn hR]
theorem evg_eq {FB FM : Nat → Nat → Int32} {sd p0 : Int32} {n : Nat} (hn : n ≤ 6) (hR : okRows FB FM) : sumN (fun c => cNow FB sd n (nI c) p0) 10 = sumN (fun c => mTo FM sd n (nI c) p0) 10 :=
  sumN_congr 10 (fun _ _ => now_eq hn hR)
theorem press_eq {FB FM : Nat → Nat → Int32} {sd p0 : Int32} {n : Nat} {f g : Nat → Int32} {c : Nat} (hn : n ≤ 6) (hR : okRows FB FM) (h : f c = g c) : cPress FB sd n p0 f c = mPress FM sd n p0 g c := by
  unfold cPress mPress
  rw [h, now_eq hn hR]
  generalize g c + mTo FM sd n (nI c) p0 = x
  by_cases h1 : x < 99
  · rw [if_pos h1, if_pos (Int32.le_of_lt h1)]
  · rw [if_neg h1]
    by_cases h2 : x ≤ 99
    · rw [if_pos h2]; exact Int32.le_antisymm (Int32.not_lt.mp h1) h2
    · rw [if_neg h2]
theorem cIn_iff {f : Nat → Int32} {much : Int32} : ∀ k, cIn f much k = 0 ↔ (k = 0 ∨ f (k - 1) < much)
  | 0 => ⟨fun _ => Or.inl rfl, fun _ => rfl⟩
  | k + 1 => by
    show b2 (¬ f k < much) = 0 ↔ _
    constructor
    · intro h
      exact Or.inr (Decidable.not_not.mp (b2_z h))
    · rintro (h | h)
      · omega
      · exact (b2_f (fun q => q h)).symm
theorem hillN_eq {f g : Nat → Int32} {much : Int32} : ∀ k, (∀ c, c < k → f c = g c) → cHillN f much k = mHillN g much k
  | 0, _ => rfl
  | k + 1, h => by
    unfold cHillN mHillN
    rw [hillN_eq k (fun c hc => h c (by omega)), h k (by omega)]
    have hi : cIn f much k = 0 ↔ (k = 0 ∨ g (k - 1) < much) := by
      rw [cIn_iff]
      by_cases hk : k = 0
      · simp [hk]
      · rw [h (k - 1) (by omega)]
    by_cases h1 : ¬ g k < much ∧ cIn f much k = 0
    · rw [if_pos h1, if_pos ⟨h1.1, hi.mp h1.2⟩]
    · rw [if_neg h1, if_neg (fun q => h1 ⟨q.1, hi.mpr q.2⟩)]
      exact (Int32.add_zero _).symm
theorem hills_eq {f g : Nat → Int32} {n : Nat} {p0 : Int32} (h : ∀ c, c < 10 → f c = g c) : cHills f n p0 = mHills g n p0 := by
  unfold cHills mHills
  rw [hillN_eq 10 h]
theorem first_congr {g1 g2 : Nat → Int32} {v : Int32} : ∀ z k, (∀ j, k ≤ j → j < k + z → g1 j = g2 j) → cFirst g1 v z k = cFirst g2 v z k
  | 0, _, _ => rfl
  | z + 1, k, h => by
    unfold cFirst
    rw [h k (by omega) (by omega), first_congr z (k + 1) (fun j h1 h2 => h j (by omega) (by omega))]
theorem close_eq {FB FM : Nat → Nat → Int32} {sd p0 p1 : Int32} {n : Nat} (hn : n ≤ 6) (hR : okRows FB FM) : cClose FB sd n p0 p1 = mClose FM sd n p0 p1 := by
  unfold cClose mClose
  rw [first_congr 21 0 (fun j _ _ => now_eq hn hR)]
theorem dry_eq {f g : Nat → Int32} : ∀ k, (∀ c, c < k → f c = g c) → dryN f k = sumN (fun c => if g c = 0 then 1 else 0) k
  | 0, _ => rfl
  | k + 1, h => by
    unfold dryN sumN
    rw [dry_eq k (fun c hc => h c (by omega)), h k (by omega)]
    by_cases h0 : g k = 0
    · rw [if_pos h0, if_pos h0]
    · rw [if_neg h0, if_neg h0]; exact (Int32.add_zero _).symm
theorem jbc_eq : ∀ w, w < 64 → jbc (nI w) = mSize (nI w) := by decide +kernel
