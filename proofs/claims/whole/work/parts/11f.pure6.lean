/-! PURE: the page -/
theorem kind_ok : ∀ a, a < 127 → (¬ cKind (nI a) < 0 ↔ ¬ mKind (nI a) = -1) ∧ (¬ mKind (nI a) = -1 → cKind (nI a) = mKind (nI a) ∧ (mKind (nI a)).toNatClampNeg ≤ 4 ∧ mKind (nI a) = nI (mKind (nI a)).toNatClampNeg) := by decide +kernel
theorem nar_ok : ∀ a, a < 127 → vp_nar .byte (nI a).toInt8.toInt32 = nI a := by decide +kernel
theorem okL_nat {x : Int32} (h : okL x) : ∃ a : Nat, a < 127 ∧ x = nI a := by
  obtain ⟨j, hj, e⟩ := rng 126 (by decide) (fun q => h.1 (Int32.lt_trans q (by decide))) h.2
  exact ⟨j, by omega, e⟩
theorem fltN_congr {P Q : Nat → Prop} [DecidablePred P] [DecidablePred Q] : ∀ z k, (∀ j, k ≤ j → j < k + z → (∀ i, k ≤ i → i < j → P i) → (P j ↔ Q j)) → fltN P z k = fltN Q z k
  | 0, _, _ => rfl
  | z + 1, k, h => by
    have h0 := h k (Nat.le_refl k) (by omega) (fun i h1 h2 => absurd h1 (by omega))
    unfold fltN
    by_cases hp : P k
    · rw [if_pos hp, if_pos (h0.mp hp)]
      refine fltN_congr z (k + 1) (fun j h1 h2 h3 => h j (by omega) (by omega) (fun i i1 i2 => ?_))
      by_cases hik : i = k
      · rw [hik]; exact hp
      · exact h3 i (by omega) i2
    · rw [if_neg hp, if_neg (fun q => hp (h0.mpr q))]
theorem flt_all {P : Nat → Prop} [DecidablePred P] : ∀ z k, fltN P z k = k + z → ∀ j, k ≤ j → j < k + z → P j
  | 0, k, _, j, h1, h2 => absurd h1 (by omega)
  | z + 1, k, h, j, h1, h2 => by
    unfold fltN at h
    by_cases hp : P k
    · rw [if_pos hp] at h
      by_cases hjk : j = k
      · rw [hjk]; exact hp
      · exact flt_all z (k + 1) (by omega) j (by omega) (by omega)
    · rw [if_neg hp] at h
      omega
/-- the page is the same on both sides -/
def okPg (f g : Nat → Int32) (sz : Nat) : Prop := ∀ i, i < sz → f i = g i ∧ ∃ a : Nat, a < 127 ∧ g i = nI a
theorem stand_iff {f g : Nat → Int32} {k : Nat} (he : f k = g k) (ha : ∃ a : Nat, a < 127 ∧ g k = nI a) (hk : k < 19) : cStand f k ↔ mGood g k := by
  show (k < 19 ∧ (if k % 5 = 0 then ¬ cKind (f k) < 0 else if k % 5 = 1 then ¬ f k - 48 < 0 ∧ ¬ (10 : Int32) ≤ f k - 48 else if k % 5 = 2 then ¬ f k - 48 < 1 ∧ ¬ (5 : Int32) < f k - 48 else if k % 5 = 3 then ¬ f k - 48 < 1 ∧ ¬ (9 : Int32) < f k - 48 else f k = 44)) ↔ (if k % 5 = 0 then ¬ mKind (g k) = -1 else if k % 5 = 1 then ¬ g k - 48 < 0 ∧ ¬ (9 : Int32) < g k - 48 else if k % 5 = 2 then ¬ g k - 48 < 1 ∧ ¬ (5 : Int32) < g k - 48 else if k % 5 = 3 then ¬ g k - 48 < 1 ∧ ¬ (9 : Int32) < g k - 48 else g k = 44 ∧ k < 19)
  rw [he]
  obtain ⟨a, ha, e⟩ := ha
  by_cases h0 : k % 5 = 0
  · rw [if_pos h0, if_pos h0, e]
    exact ⟨fun q => (kind_ok a ha).1.mp q.2, fun q => ⟨hk, (kind_ok a ha).1.mpr q⟩⟩
  · rw [if_neg h0, if_neg h0]
    by_cases h1 : k % 5 = 1
    · rw [if_pos h1, if_pos h1]
      exact ⟨fun q => okCell_iff.mpr q.2, fun q => ⟨hk, okCell_iff.mp q⟩⟩
    · rw [if_neg h1, if_neg h1]
      by_cases h2 : k % 5 = 2
      · rw [if_pos h2, if_pos h2]; exact ⟨fun q => q.2, fun q => ⟨hk, q⟩⟩
      · rw [if_neg h2, if_neg h2]
        by_cases h3 : k % 5 = 3
        · rw [if_pos h3, if_pos h3]; exact ⟨fun q => q.2, fun q => ⟨hk, q⟩⟩
        · rw [if_neg h3, if_neg h3]; exact ⟨fun q => ⟨q.2, q.1⟩, fun q => ⟨q.2, q.1⟩⟩
theorem flt_eq {f g : Nat → Int32} {sz : Nat} (hsz : sz ≤ 21) (h : okPg f g sz) : fltN (cStand f) sz 0 = fltN (mGood g) sz 0 := by
  refine fltN_congr sz 0 (fun j _ h2 h3 => ?_)
  obtain ⟨e1, e2⟩ := h j (by omega)
  by_cases h19 : j < 19
  · exact stand_iff e1 e2 h19
  · by_cases hj : j = 19
    · constructor
      · intro q
        exact absurd q.1 h19
      · intro q
        rw [hj] at q
        have q2 : g 19 = 44 ∧ 19 < 19 := q
        omega
    · exact absurd (h3 19 (by omega) (by omega)).1 (by decide)
theorem isL_iff {f g : Nat → Int32} {sz : Nat} (hsz : sz ≤ 21) (h : okPg f g sz) : cIsL f sz ↔ mIsL g sz := by
  show (sz % 5 = 4 ∧ fltN (cStand f) sz 0 = sz) ↔ (sz % 5 = 4 ∧ fltN (mGood g) sz 0 = sz)
  rw [flt_eq hsz h]
theorem okRows_new {FB FM FB' FM' : Nat → Nat → Int32} {a b d e a' b' d' e' : Nat → Int32} {z : Nat} (hR : okRows FB FM) (h16 : FB' 16 = rowN a (FB 16) z) (h17 : FB' 17 = rowN b (FB 17) z) (h18 : FB' 18 = rowN d (FB 18) z) (h19 : FB' 19 = rowN e (FB 19) z) (g2 : FM' 2 = rowN a' (FM 2) z) (g3 : FM' 3 = rowN b' (FM 3) z) (g4 : FM' 4 = rowN d' (FM 4) z) (g5 : FM' 5 = rowN e' (FM 5) z)
    (hnew : ∀ k, k < z → a k = a' k ∧ b k = b' k ∧ d k = d' k ∧ e k = e' k ∧ okSt (a' k) (b' k) (d' k) (e' k)) : okRows FB' FM' := by
  intro k hk
  rw [h16, h17, h18, h19, g2, g3, g4, g5]
  unfold rowN
  by_cases hz : k < z
  · simp only [if_pos hz]
    obtain ⟨e1, e2, e3, e4, e5⟩ := hnew k hz
    rw [e1, e2, e3, e4]
    exact ⟨rfl, rfl, rfl, rfl, e5⟩
  · simp only [if_neg hz]
    exact hR k hk
theorem okRows_upd {FB FM FB' FM' : Nat → Nat → Int32} {a b d e d' : Int32} {n : Nat} (hR : okRows FB FM) (h16 : FB' 16 = upd (FB 16) n a) (h17 : FB' 17 = upd (FB 17) n b) (h18 : FB' 18 = upd (FB 18) n d) (h19 : FB' 19 = upd (FB 19) n e) (g2 : FM' 2 = upd (FM 2) n a) (g3 : FM' 3 = upd (FM 3) n b) (g4 : FM' 4 = upd (FM 4) n d') (g5 : FM' 5 = upd (FM 5) n e)
    (hd : d = d') (hnew : okSt a b d' e) : okRows FB' FM' := by
  intro k hk
  rw [h16, h17, h18, h19, g2, g3, g4, g5, hd]
  unfold upd
  by_cases hz : k = n
  · simp only [if_pos hz]
    exact ⟨trivial, trivial, trivial, trivial, hnew⟩
  · simp only [if_neg hz]
    exact hR k hk
theorem leaf_new {f g : Nat → Int32} {sz : Nat} (hsz : sz ≤ 21) (h : okPg f g sz) (hL : mIsL g sz) : ∀ k, k < (sz + 1) / 5 → cKind (f (5 * k)) = mKind (g (5 * k)) ∧ f (5 * k + 1) - 48 = g (5 * k + 1) - 48 ∧ (if (10 : Int32) - (f (5 * k + 1) - 48) < f (5 * k + 2) - 48 then (10 : Int32) - (f (5 * k + 1) - 48) else f (5 * k + 2) - 48) = mLong (g (5 * k + 1) - 48) (g (5 * k + 2) - 48) ∧ f (5 * k + 3) - 48 = g (5 * k + 3) - 48 ∧ okSt (mKind (g (5 * k))) (g (5 * k + 1) - 48) (mLong (g (5 * k + 1) - 48) (g (5 * k + 2) - 48)) (g (5 * k + 3) - 48) := by
  intro k hk
  obtain ⟨hm, hflt⟩ := hL
  have hall := flt_all (P := mGood g) sz 0 (by omega)
  have p0 := hall (5 * k) (by omega) (by omega)
  have p1 := hall (5 * k + 1) (by omega) (by omega)
  have p2 := hall (5 * k + 2) (by omega) (by omega)
  have p3 := hall (5 * k + 3) (by omega) (by omega)
  unfold mGood at p0 p1 p2 p3
  rw [if_pos (by omega)] at p0
  rw [if_neg (by omega), if_pos (by omega)] at p1
  rw [if_neg (by omega), if_neg (by omega), if_pos (by omega)] at p2
  rw [if_neg (by omega), if_neg (by omega), if_neg (by omega), if_pos (by omega)] at p3
  obtain ⟨a0, ha0, e0⟩ := (h (5 * k) (by omega)).2
  have z : ∀ {x : Int32}, ¬ x < 1 → ¬ x < 0 := fun q q2 => q (Int32.lt_trans q2 (by decide))
  have n1 := rng 9 (by decide) p1.1 p1.2
  have n2 := rng 5 (by decide) (z p2.1) p2.2
  have n3 := rng 9 (by decide) (z p3.1) p3.2
  rw [e0] at p0
  obtain ⟨k1, k2, k3⟩ := (kind_ok a0 ha0).2 p0
  rw [(h (5 * k) (by omega)).1, (h (5 * k + 1) (by omega)).1, (h (5 * k + 2) (by omega)).1, (h (5 * k + 3) (by omega)).1, e0]
  exact ⟨k1, rfl, long_eq n1 n2 p2.1, rfl, okSt_of ⟨_, k2, k3⟩ n1 n2 p2.1 n3⟩
