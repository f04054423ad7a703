/-! PURE: toSand -/
theorem bitN : ∀ r, r < 64 → ∀ k, k < 6 → (bitOn (nI r) (nI k) ↔ r / 2 ^ k % 2 = 1) := by decide +kernel
def szN (r : Nat) : Nat := r % 2 + r / 2 % 2 + r / 4 % 2 + r / 8 % 2 + r / 16 % 2 + r / 32 % 2
theorem sizeN : ∀ r, r < 64 → mSize (nI r) = nI (szN r) := by decide +kernel
theorem szN_le (r : Nat) : szN r ≤ 6 := by unfold szN; omega
theorem sub64 : ∀ r, r < 64 → ∀ u, u < 64 → (∀ k, k < 6 → r / 2 ^ k % 2 = 1 → u / 2 ^ k % 2 = 1) → r ≤ u ∧ szN r ≤ szN u := by decide +kernel
theorem dis64 : ∀ r, r < 64 → ∀ w, w < 64 → (∀ k, k < 6 → r / 2 ^ k % 2 = 1 → ¬ w / 2 ^ k % 2 = 1) → nI r &&& nI w = 0 := by decide +kernel
theorem add64 : ∀ n, n < 6 → ∀ r, r < 2 ^ n → nI r ||| ((1 : Int32) <<< (nI n &&& 31)) = nI (r + 2 ^ n) ∧ ∀ k, k < 6 → ((r + 2 ^ n) / 2 ^ k % 2 = 1 ↔ r / 2 ^ k % 2 = 1 ∨ k = n) := by decide +kernel
theorem msk {P : Nat → Prop} [DecidablePred P] : ∀ n, n ≤ 6 → ∃ r : Nat, r < 2 ^ n ∧ maskN P n = nI r ∧ ∀ k, k < 6 → (r / 2 ^ k % 2 = 1 ↔ k < n ∧ P k)
  | 0, _ => ⟨0, by decide, rfl, fun k _ => by simp⟩
  | n + 1, hn => by
    obtain ⟨r, h1, h2, h3⟩ := msk (P := P) n (by omega)
    obtain ⟨a1, a2⟩ := add64 n (by omega) r h1
    have hp : 2 ^ (n + 1) = 2 * 2 ^ n := by rw [Nat.pow_succ]; omega
    unfold maskN
    by_cases h : P n
    · rw [if_pos h]
      refine ⟨r + 2 ^ n, by omega, by rw [h2]; exact a1, fun k hk => ?_⟩
      rw [a2 k hk, h3 k hk]
      constructor
      · rintro (⟨q1, q2⟩ | rfl)
        · exact ⟨by omega, q2⟩
        · exact ⟨by omega, h⟩
      · rintro ⟨q1, q2⟩
        by_cases hkn : k = n
        · exact Or.inr hkn
        · exact Or.inl ⟨by omega, q2⟩
    · rw [if_neg h]
      refine ⟨r, by omega, h2, fun k hk => ?_⟩
      rw [h3 k hk]
      constructor
      · rintro ⟨q1, q2⟩
        exact ⟨by omega, q2⟩
      · rintro ⟨q1, q2⟩
        refine ⟨?_, q2⟩
        by_cases hkn : k = n
        · rw [hkn] at q2; exact absurd q2 h
        · omega
theorem gives0 {bg cn kd c : Int32} : cGives bg cn kd c 0 = 0 := by
  unfold cGives
  rw [half0]
  split
  · rfl
  · split <;> rfl
theorem rows_ok {FB FM : Nat → Nat → Int32} (hR : okRows FB FM) : ∀ k, k < 6 → okSt (FM 2 k) (FM 3 k) (FM 4 k) (FM 5 k) := fun k hk => by
  obtain ⟨r1, r2, r3, r4, r5⟩ := hR k hk
  rw [r1, r2, r3, r4] at r5
  exact r5
theorem reach_iff {FB FM : Nat → Nat → Int32} {sd m cells : Int32} {n k : Nat} (hn : n ≤ 6) (hR : okRows FB FM) (hm : okMin m) (hk : k < n) : cReach FB sd n m cells k ↔ ¬ bitOn sd (nI k) ∧ RR FM m cells k := by
  obtain ⟨r1, r2, r3, r4, -⟩ := hR k (by omega)
  have hok : okS n (nI k) := ⟨nI_pos (by omega), fun q => absurd ((nI_leI (by omega) (by omega)).mp q) (by omega)⟩
  have hw : cWetS FB sd n (nI k) m = if bitOn sd (nI k) then 0 else cWet (nI k) (FM 2 k) m (FM 5 k) := by
    unfold cWetS
    rw [if_pos hok, if_pos hm, nI_clamp (by omega), r1, r4]
  have hp : ∀ x : Int32, (∃ t : Nat, t ≤ 12 ∧ x = nI t) → (0 < x ↔ ¬ x = 0) := by
    rintro x ⟨t, ht, rfl⟩
    have a1 : (0 : Int32) < nI t ↔ 0 < t := nI_ltI (a := 0) (by omega) (by omega)
    rw [a1, nI_z (by omega)]
    omega
  show (¬ ∀ c, c < 10 → ¬ (bitOn cells (nI c) ∧ 0 < cGives (FB 17 k) (FB 18 k) (FB 16 k) (9 - nI c) (cWetS FB sd n (nI k) m))) ↔ _
  rw [hw, r1, r2, r3]
  by_cases hb1 : bitOn sd (nI k)
  · rw [if_pos hb1]
    constructor
    · intro h
      exact absurd (fun c _ q => absurd (show (0 : Int32) < 0 by simpa [gives0] using q.2) (by decide)) h
    · intro h
      exact absurd hb1 h.1
  · rw [if_neg hb1]
    constructor
    · intro h
      refine ⟨hb1, ?_⟩
      obtain ⟨c, h⟩ := Classical.not_forall.mp h
      obtain ⟨hc, h⟩ := Classical.not_imp.mp h
      have h := Classical.not_not.mp h
      exact ⟨c, hc, h.1, (hp _ (gS_nat (by omega) (rows_ok hR k (by omega)) hm)).mp h.2⟩
    · rintro ⟨-, c, hc, q1, q2⟩ h
      exact h c hc ⟨q1, (hp _ (gS_nat (by omega) (rows_ok hR k (by omega)) hm)).mpr q2⟩
theorem sandB_eq {FM : Nat → Nat → Int32} {m cells : Int32} {n w r : Nat} (hn : n ≤ 6) (hr6 : r < 2 ^ n) (hdis : nI r &&& nI w = 0) (hdry : ∀ u, u < 64 → (mDryAt FM (nI w ||| nI u) n m cells ↔ ∀ k, k < 6 → r / 2 ^ k % 2 = 1 → u / 2 ^ k % 2 = 1)) : ∀ u, u ≤ 2 ^ n → mSandB FM (nI w) n m cells u = if u ≤ r then -1 else nI r
  | 0, _ => by rw [if_pos (Nat.zero_le r)]; rfl
  | u + 1, hu => by
    have h64 := two_n hn
    have ih := sandB_eq hn hr6 hdis hdry u (by omega)
    unfold mSandB
    rw [ih]
    by_cases h1 : u < r
    · have hnd : ¬ mDryAt FM (nI w ||| nI u) n m cells := fun q => by
        have := (sub64 r (by omega) u (by omega) ((hdry u (by omega)).mp q)).1
        omega
      rw [if_neg (fun q => hnd q.2), if_pos (show u ≤ r by omega), if_pos (show u + 1 ≤ r by omega)]
    · by_cases h2 : u = r
      · have hd : mDryAt FM (nI w ||| nI u) n m cells := (hdry u (by omega)).mpr (by rw [h2]; exact fun _ _ q => q)
        rw [if_pos (show u ≤ r by omega), if_pos ⟨⟨by rw [h2]; exact hdis, Or.inl rfl⟩, hd⟩, if_neg (show ¬ u + 1 ≤ r by omega), h2]
      · rw [if_neg (show ¬ u ≤ r by omega), if_neg (show ¬ u + 1 ≤ r by omega)]
        refine if_neg ?_
        rintro ⟨⟨-, q⟩, hd⟩
        rcases q with q | q
        · exact nI_ne_m1 (by omega) q
        · rw [sizeN u (by omega), sizeN r (by omega)] at q
          have a1 := (nI_ltI (by have := szN_le u; omega) (by have := szN_le r; omega)).mp q
          have a2 := (sub64 r (by omega) u (by omega) ((hdry u (by omega)).mp hd)).2
          omega
theorem sand_r {FB FM : Nat → Nat → Int32} {m cells : Int32} {n w : Nat} (hn : n ≤ 6) (hw : w < 2 ^ n) (hR : okRows FB FM) (hm : okMin m) : ∃ r : Nat, r < 64 ∧ maskN (cReach FB (nI w) n m cells) n = nI r ∧ mSandB FM (nI w) n m cells (2 ^ n) = nI r := by
  have h64 := two_n hn
  obtain ⟨r, h1, h2, h3⟩ := msk (P := cReach FB (nI w) n m cells) n hn
  have h3' : ∀ k, k < 6 → (r / 2 ^ k % 2 = 1 ↔ k < n ∧ ¬ bitOn (nI w) (nI k) ∧ RR FM m cells k) := fun k hk => by
    rw [h3 k hk]
    exact ⟨fun q => ⟨q.1, (reach_iff hn hR hm q.1).mp q.2⟩, fun q => ⟨q.1, (reach_iff hn hR hm q.1).mpr q.2⟩⟩
  refine ⟨r, by omega, h2, ?_⟩
  have hdis : nI r &&& nI w = 0 := dis64 r (by omega) w (by omega) (fun k hk q q2 => ((h3' k hk).mp q).2.1 ((bitN w (by omega) k hk).mpr q2))
  rw [sandB_eq hn h1 hdis (fun u hu => ?_) (2 ^ n) (Nat.le_refl _), if_neg (by omega)]
  rw [dryAt_iff hn (rows_ok hR) hm]
  constructor
  · intro h k hk q
    obtain ⟨q1, q2, q3⟩ := (h3' k hk).mp q
    rcases bit_or.mp (h k q1 q3) with z | z
    · exact absurd z q2
    · exact (bitN u hu k hk).mp z
  · intro h k hk q
    refine bit_or.mpr ?_
    by_cases hb1 : bitOn (nI w) (nI k)
    · exact Or.inl hb1
    · exact Or.inr ((bitN u hu k (by omega)).mpr (h k (by omega) ((h3' k (by omega)).mpr ⟨hk, hb1, q⟩)))
theorem toSand_eq {FB FM : Nat → Nat → Int32} {p0 p1 p2 : Int32} {n w : Nat} (hn : n ≤ 6) (hw : w < 2 ^ n) (hR : okRows FB FM) : cToSand FB (nI w) n p0 p1 p2 = mToSand FM (nI w) n p0 p1 p2 := by
  unfold cToSand mToSand
  by_cases h : okMin p0 ∧ ¬ p1 < 0 ∧ ¬ (1023 : Int32) < p1 ∧ ¬ p2 < 0 ∧ ¬ (1 : Int32) < p2
  · have h' : okMin p0 ∧ (¬ p1 < 0 ∧ ¬ (1023 : Int32) < p1) ∧ (¬ p2 < 0 ∧ ¬ (1 : Int32) < p2) := ⟨h.1, ⟨h.2.1, h.2.2.1⟩, h.2.2.2.1, h.2.2.2.2⟩
    rw [if_pos h, if_pos h']
    by_cases h0 : 0 < n
    · rw [if_pos h0, if_pos h0]
      obtain ⟨r, r1, r2, r3⟩ := sand_r (m := p0) (cells := p1) hn hw hR h.1
      unfold mSand
      rw [r2, r3]
      obtain ⟨j, hj, rfl⟩ := rng 1 (by decide) h.2.2.2.1 h.2.2.2.2
      match j, hj with
      | 0, _ => rw [if_pos (show nI 0 = 0 from rfl), if_neg (show ¬ nI 0 = 1 by decide), jbc_eq r r1]
      | 1, _ => rw [if_neg (show ¬ nI 1 = 0 by decide), if_pos (show nI 1 = 1 from rfl)]
      | j + 2, q => omega
    · rw [if_neg h0, if_neg h0]
  · rw [if_neg h, if_neg (fun q => h ⟨q.1, q.2.1.1, q.2.1.2, q.2.2.1, q.2.2.2⟩)]
