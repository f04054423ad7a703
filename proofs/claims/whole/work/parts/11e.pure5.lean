/-! PURE: count, digest -/
theorem count_eq {IB IM : Nat → Int32} {f8 f7 : Nat → Int32} {n w : Nat} {p0 : Int32} (hw : w < 64) (h4 : IB 4 = nI w) (e6 : IM 6 = IB 4) (e8 : IM 8 = IB 5) (e9 : IM 9 = IB 6) (e13 : IM 13 = IB 2) (e0 : IM 0 = IB 1) (hf : ∀ c, c < 10 → f8 c = f7 c) : cCount IB f8 n p0 = mCount IM f7 n p0 := by
  unfold cCount mCount mDryN
  rw [e6, e8, e9, e13, e0, h4, jbc_eq w hw, sumN_congr 10 hf, dry_eq 10 hf]
theorem mixN_congr {f g : Nat → Int32} {h : Int64} : ∀ n, (∀ k, k < n → f k = g k) → mixN f h n = mixN g h n
  | 0, _ => rfl
  | n + 1, q => by
    unfold mixN
    rw [mixN_congr n (fun k hk => q k (by omega)), q n (by omega)]
theorem mix2_congr {f g f' g' : Nat → Int32} {h : Int64} : ∀ n, (∀ k, k < n → f k = f' k ∧ g k = g' k) → mix2 f g h n = mix2 f' g' h n
  | 0, _ => rfl
  | n + 1, q => by
    unfold mix2
    rw [mix2_congr n (fun k hk => q k (by omega)), (q n (by omega)).1, (q n (by omega)).2]
theorem okS_k {n k : Nat} (hn : n ≤ 6) (hk : k < n) : okS n (nI k) := ⟨nI_pos (by omega), fun q => absurd ((nI_leI (by omega) (by omega)).mp q) (by omega)⟩
theorem digS_eq {FB FM : Nat → Nat → Int32} {sd : Int32} {n fd : Nat} (hn : n ≤ 6) (hf : fd ≤ 6) (hR : okRows FB FM) (hF : okFnd FB FM) : ∀ k, k ≤ n → cDigS FB sd n fd k = mDigS FM sd n fd k
  | 0, _ => rfl
  | k + 1, hk => by
    have ho := okS_k hn (show k < n by omega)
    have e1 : ∀ j, j < 6 → cAbout FB sd n fd (nI k) (nI j) = mStroke FM sd n fd k (nI j) := by
      intro j hj
      rw [about_eq hn hf hR hF]
      unfold mAbout
      rw [if_pos ho, if_pos (show ¬ nI j < 0 ∧ ¬ (5 : Int32) < nI j from ⟨nI_pos (by omega), fun q => absurd ((nI_ltI (a := 5) (by omega) (by omega)).mp q) (by omega)⟩), nI_clamp (by omega)]
    have e2 : ∀ t : Int32, okMin t → cWetS FB sd n (nI k) t = mWet FM sd k t := by
      intro t ht
      rw [wetS_eq hn hR]
      unfold mWetS
      rw [if_pos ho, if_pos ht, nI_clamp (by omega)]
    have e3 : cLook FB sd n fd (nI k) 6 = mLookN FM sd n fd k 6 := by
      rw [look_eq hn hf hR hF]
      unfold mLook
      rw [if_pos ho, if_pos (by decide), nI_clamp (by omega)]
    unfold cDigS mDigS
    rw [digS_eq hn hf hR hF k (by omega), mixN_congr 6 e1, e2 3 (by decide), e2 9 (by decide), e3]
theorem land_eq {FB FM : Nat → Nat → Int32} {n w : Nat} {h : Int64} (hn : n ≤ 6) (h0 : 0 < n) (hw : w < 2 ^ n) (hR : okRows FB FM) (hf : ∀ c, c < 10 → FB 8 c = FM 7 c) : cLand FB (nI w) n h = mLand FM (nI w) n h := by
  have ho : ∀ c, c < 10 → okCell (nI c) := fun c hc => ⟨nI_pos (by omega), fun q => absurd ((nI_leI (a := 10) (by omega) (by omega)).mp q) (by omega)⟩
  have e1 : ∀ c, c < 10 → cInk (FB 8) n (nI c) = FM 7 c ∧ cComesS FB (nI w) n (nI c) 4 = mTo FM (nI w) n (nI c) 4 := by
    intro c hc
    constructor
    · unfold cInk
      rw [if_pos ⟨h0, ho c hc⟩, nI_clamp (by omega)]
      exact hf c hc
    · rw [comesS_eq hn hR]
      unfold mComesS
      rw [if_pos ⟨h0, ho c hc⟩, if_pos (by decide)]
  have e2 : cHills (FB 8) n 5 = mHillN (FM 7) 5 10 := by
    rw [hills_eq hf]
    unfold mHills
    rw [if_pos (by decide), if_pos h0]
  have e3 : ∀ t : Int32, (t = 0 ∨ t = 1) → cToSand FB (nI w) n 4 1023 t = mSand FM (nI w) n 4 1023 t := by
    intro t ht
    rw [toSand_eq hn hw hR]
    unfold mToSand
    rcases ht with rfl | rfl
    · rw [if_pos (by decide), if_pos h0]
    · rw [if_pos (by decide), if_pos h0]
  unfold cLand mLand
  rw [mix2_congr 10 e1, e2, e3 0 (Or.inl rfl), e3 1 (Or.inr rfl)]
theorem digest_eq {IB IM : Nat → Int32} {FB FM : Nat → Nat → Int32} {n fd sz w : Nat} (hn : n ≤ 6) (hfd : fd ≤ 6) (hw : w < 2 ^ n) (hR : okRows FB FM) (hF : okFnd FB FM) (h4 : IB 4 = nI w) (e6 : IM 6 = IB 4) (e8 : IM 8 = IB 5) (e9 : IM 9 = IB 6) (e13 : IM 13 = IB 2) (e0 : IM 0 = IB 1) (hf : ∀ c, c < 10 → FB 8 c = FM 7 c) (hpg : ∀ i, i < sz → FB 7 i = FM 14 i) : cDigest IB FB n fd sz = mDigest IM FM n fd sz := by
  have h64 := two_n hn
  unfold cDigest mDigest
  rw [mixN_congr 8 (fun j _ => count_eq (p0 := nI j) (by omega) h4 e6 e8 e9 e13 e0 hf), e6, h4, digS_eq hn hfd hR hF n (Nat.le_refl n), mixN_congr sz hpg]
  by_cases h0 : 0 < n
  · rw [if_pos h0, if_pos h0, land_eq hn h0 hw hR hf]
  · rw [if_neg h0, if_neg h0]
