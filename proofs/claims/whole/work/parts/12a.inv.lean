/-! THE INVARIANT: what holds of class and reference between two calls -/
def LI (N : Nat) (IB : Nat → Int32) (FB : Nat → Nat → Int32) (IM : Nat → Int32) (FM : Nat → Nat → Int32) (n fd sz w lv kl kn kw kf : Nat) : Prop :=
  (IB 3 = nI n) ∧ (IM 1 = nI n) ∧ (n ≤ 6) ∧ (IB 4 = nI w) ∧ (IM 6 = nI w) ∧ (w < 2 ^ n) ∧ (IM 8 = IB 5) ∧ (IB 6 = nI fd) ∧ (IM 9 = nI fd) ∧ (fd ≤ 6) ∧ (IB 2 = nI sz) ∧ (IM 13 = nI sz) ∧ (sz ≤ 21) ∧ (IB 1 = nI lv) ∧ (IM 0 = nI lv) ∧ (lv ≤ N) ∧ (IB 7 = nI kn) ∧ (IM 20 = nI kn) ∧ (kn ≤ 6) ∧ (IB 8 = nI kw) ∧ (IM 21 = nI kw) ∧ (kw < 2 ^ kn) ∧ (IM 22 = IB 9) ∧ (IB 10 = nI kf) ∧ (IM 23 = nI kf) ∧ (kf ≤ 6) ∧ (IM 19 = nI kl) ∧ (kl ≤ lv) ∧ ((¬ IB 0 = 0) ↔ (¬ IM 18 = 0 ∧ kl = lv)) ∧ (okRows FB FM) ∧ (∀ c, c < 10 → FB 8 c = FM 7 c) ∧ (okFnd FB FM) ∧ (∀ c, c < 10 → FB 12 c = FM 24 c) ∧ (∀ i, i < 6 → FB 13 i = FM 25 i ∧ FB 14 i = FM 26 i ∧ FB 15 i = FM 27 i) ∧ (okPg (FB 7) (FM 14) sz)
theorem LI_same {N : Nat} {IB IM : Nat → Int32} {FB FM : Nat → Nat → Int32} {n fd sz w lv kl kn kw kf : Nat}  (h : LI N IB FB IM FM n fd sz w lv kl kn kw kf) : LI (N + 1) IB FB IM FM n fd sz w lv kl kn kw kf := by
  obtain ⟨q_b3, q_m1, q_n6, q_b4, q_m6, q_ww, q_ev, q_b6, q_m9, q_f6, q_b2, q_m13, q_s21, q_b1, q_m0, q_lN, q_b7, q_m20, q_kn6, q_b8, q_m21, q_kww, q_kev, q_b10, q_m23, q_kf6, q_m19, q_kle, q_kept, q_rows, q_ink, q_fnd, q_kink, q_kfnd, q_pg⟩ := h
  exact ⟨q_b3, q_m1, q_n6, q_b4, q_m6, q_ww, q_ev, q_b6, q_m9, q_f6, q_b2, q_m13, q_s21, q_b1, q_m0, Nat.le_succ_of_le q_lN, q_b7, q_m20, q_kn6, q_b8, q_m21, q_kww, q_kev, q_b10, q_m23, q_kf6, q_m19, q_kle, q_kept, q_rows, q_ink, q_fnd, q_kink, q_kfnd, q_pg⟩
theorem LI_letter {N : Nat} {IB IM : Nat → Int32} {FB FM : Nat → Nat → Int32} {n fd sz w lv kl kn kw kf : Nat} {x : Int32} (hx0 : okL x) (hs0 : sz < 21) (h : LI N IB FB IM FM n fd sz w lv kl kn kw kf) : LI (N + 1) (upd IB 2 (nI (sz + 1))) (va_up FB 7 (upd (FB 7) sz x)) (upd IM 13 (nI (sz + 1))) (va_up FM 14 (upd (FM 14) sz (vp_nar .byte x.toInt8.toInt32))) n fd (sz + 1) w lv kl kn kw kf := by
  obtain ⟨q_b3, q_m1, q_n6, q_b4, q_m6, q_ww, q_ev, q_b6, q_m9, q_f6, q_b2, q_m13, q_s21, q_b1, q_m0, q_lN, q_b7, q_m20, q_kn6, q_b8, q_m21, q_kww, q_kev, q_b10, q_m23, q_kf6, q_m19, q_kle, q_kept, q_rows, q_ink, q_fnd, q_kink, q_kfnd, q_pg⟩ := h
  obtain ⟨a, ha, ea⟩ := okL_nat hx0
  have hpg : okPg (upd (FB 7) sz x) (upd (FM 14) sz (vp_nar .byte x.toInt8.toInt32)) (sz + 1) := by
    intro i hi
    unfold upd
    by_cases hz : i = sz
    · rw [if_pos hz, if_pos hz, ea, nar_ok a ha]; exact ⟨rfl, a, ha, rfl⟩
    · rw [if_neg hz, if_neg hz]; exact q_pg i (by omega)
  exact ⟨q_b3, q_m1, q_n6, q_b4, q_m6, q_ww, q_ev, q_b6, q_m9, q_f6, rfl, rfl, hs0, q_b1, q_m0, Nat.le_succ_of_le q_lN, q_b7, q_m20, q_kn6, q_b8, q_m21, q_kww, q_kev, q_b10, q_m23, q_kf6, q_m19, q_kle, q_kept, q_rows, q_ink, q_fnd, q_kink, q_kfnd, hpg⟩
theorem LI_blank {N : Nat} {IB IM : Nat → Int32} {FB FM : Nat → Nat → Int32} {n fd sz w lv kl kn kw kf : Nat}  (h : LI N IB FB IM FM n fd sz w lv kl kn kw kf) : LI (N + 1) (upd IB 2 0) FB (upd IM 13 0) FM n fd 0 w lv kl kn kw kf := by
  obtain ⟨q_b3, q_m1, q_n6, q_b4, q_m6, q_ww, q_ev, q_b6, q_m9, q_f6, q_b2, q_m13, q_s21, q_b1, q_m0, q_lN, q_b7, q_m20, q_kn6, q_b8, q_m21, q_kww, q_kev, q_b10, q_m23, q_kf6, q_m19, q_kle, q_kept, q_rows, q_ink, q_fnd, q_kink, q_kfnd, q_pg⟩ := h
  exact ⟨q_b3, q_m1, q_n6, q_b4, q_m6, q_ww, q_ev, q_b6, q_m9, q_f6, rfl, rfl, Nat.zero_le 21, q_b1, q_m0, Nat.le_succ_of_le q_lN, q_b7, q_m20, q_kn6, q_b8, q_m21, q_kww, q_kev, q_b10, q_m23, q_kf6, q_m19, q_kle, q_kept, q_rows, q_ink, q_fnd, q_kink, q_kfnd, (fun i hi => absurd hi (by omega))⟩
theorem LI_forget {N : Nat} {IB IM : Nat → Int32} {FB FM : Nat → Nat → Int32} {n fd sz w lv kl kn kw kf : Nat}  (h : LI N IB FB IM FM n fd sz w lv kl kn kw kf) : LI (N + 1) (upd IB 6 0) FB (upd IM 9 0) FM n 0 sz w lv kl kn kw kf := by
  obtain ⟨q_b3, q_m1, q_n6, q_b4, q_m6, q_ww, q_ev, q_b6, q_m9, q_f6, q_b2, q_m13, q_s21, q_b1, q_m0, q_lN, q_b7, q_m20, q_kn6, q_b8, q_m21, q_kww, q_kev, q_b10, q_m23, q_kf6, q_m19, q_kle, q_kept, q_rows, q_ink, q_fnd, q_kink, q_kfnd, q_pg⟩ := h
  exact ⟨q_b3, q_m1, q_n6, q_b4, q_m6, q_ww, q_ev, rfl, rfl, Nat.zero_le 6, q_b2, q_m13, q_s21, q_b1, q_m0, Nat.le_succ_of_le q_lN, q_b7, q_m20, q_kn6, q_b8, q_m21, q_kww, q_kev, q_b10, q_m23, q_kf6, q_m19, q_kle, q_kept, q_rows, q_ink, q_fnd, q_kink, q_kfnd, q_pg⟩
theorem LI_found {N : Nat} {IB IM : Nat → Int32} {FB FM : Nat → Nat → Int32} {n fd sz w lv kl kn kw kf : Nat} {x y z : Int32} (hs0 : fd < 6) (h : LI N IB FB IM FM n fd sz w lv kl kn kw kf) : LI (N + 1) (upd IB 6 (nI (fd + 1))) (va_up (va_up (va_up FB 9 (upd (FB 9) fd x)) 10 (upd (FB 10) fd y)) 11 (upd (FB 11) fd z)) (upd IM 9 (nI (fd + 1))) (va_up (va_up (va_up FM 10 (upd (FM 10) fd x)) 11 (upd (FM 11) fd y)) 12 (upd (FM 12) fd z)) n (fd + 1) sz w lv kl kn kw kf := by
  obtain ⟨q_b3, q_m1, q_n6, q_b4, q_m6, q_ww, q_ev, q_b6, q_m9, q_f6, q_b2, q_m13, q_s21, q_b1, q_m0, q_lN, q_b7, q_m20, q_kn6, q_b8, q_m21, q_kww, q_kev, q_b10, q_m23, q_kf6, q_m19, q_kle, q_kept, q_rows, q_ink, q_fnd, q_kink, q_kfnd, q_pg⟩ := h
  have hf : okFnd (va_up (va_up (va_up FB 9 (upd (FB 9) fd x)) 10 (upd (FB 10) fd y)) 11 (upd (FB 11) fd z)) (va_up (va_up (va_up FM 10 (upd (FM 10) fd x)) 11 (upd (FM 11) fd y)) 12 (upd (FM 12) fd z)) := by
    intro i hi
    show upd (FB 9) fd x i = upd (FM 10) fd x i ∧ upd (FB 10) fd y i = upd (FM 11) fd y i ∧ upd (FB 11) fd z i = upd (FM 12) fd z i
    obtain ⟨a, b, d⟩ := q_fnd i hi
    unfold upd
    rw [a, b, d]
    exact ⟨rfl, rfl, rfl⟩
  exact ⟨q_b3, q_m1, q_n6, q_b4, q_m6, q_ww, q_ev, rfl, rfl, hs0, q_b2, q_m13, q_s21, q_b1, q_m0, Nat.le_succ_of_le q_lN, q_b7, q_m20, q_kn6, q_b8, q_m21, q_kww, q_kev, q_b10, q_m23, q_kf6, q_m19, q_kle, q_kept, q_rows, q_ink, hf, q_kink, q_kfnd, q_pg⟩
theorem LI_sand {N : Nat} {IB IM : Nat → Int32} {FB FM : Nat → Nat → Int32} {n fd sz w lv kl kn kw kf : Nat} {x z : Int32} (hs0 : okS n x) (h : LI N IB FB IM FM n fd sz w lv kl kn kw kf) : ∃ w2, LI (N + 1) (upd IB 4 (cPut (IB 4) x z)) FB (upd IM 6 (cPut (IM 6) x z)) FM n fd sz w2 lv kl kn kw kf := by
  obtain ⟨q_b3, q_m1, q_n6, q_b4, q_m6, q_ww, q_ev, q_b6, q_m9, q_f6, q_b2, q_m13, q_s21, q_b1, q_m0, q_lN, q_b7, q_m20, q_kn6, q_b8, q_m21, q_kww, q_kev, q_b10, q_m23, q_kf6, q_m19, q_kle, q_kept, q_rows, q_ink, q_fnd, q_kink, q_kfnd, q_pg⟩ := h
  obtain ⟨w2, hw2, ew2⟩ := put_ok (z := z) q_n6 q_ww hs0
  have hz1 : cPut (IB 4) x z = nI w2 := by rw [q_b4]; exact ew2
  have hz2 : cPut (IM 6) x z = nI w2 := by rw [q_m6]; exact ew2
  refine ⟨w2, ?_⟩
  exact ⟨q_b3, q_m1, q_n6, hz1, hz2, hw2, q_ev, q_b6, q_m9, q_f6, q_b2, q_m13, q_s21, q_b1, q_m0, Nat.le_succ_of_le q_lN, q_b7, q_m20, q_kn6, q_b8, q_m21, q_kww, q_kev, q_b10, q_m23, q_kf6, q_m19, q_kle, q_kept, q_rows, q_ink, q_fnd, q_kink, q_kfnd, q_pg⟩
theorem LI_write {N : Nat} {IB IM : Nat → Int32} {FB FM : Nat → Nat → Int32} {n fd sz w lv kl kn kw kf : Nat} {p0 p1 p2 p3 : Int32} (hs0 : okW p0 p1 p2 p3) (hs1 : n < 6) (h : LI N IB FB IM FM n fd sz w lv kl kn kw kf) : LI (N + 1) (upd IB 3 (nI (n + 1))) (va_up (va_up (va_up (va_up FB 16 (upd (FB 16) n p0)) 17 (upd (FB 17) n p1)) 18 (upd (FB 18) n (if 10 - p1 < p2 then 10 - p1 else p2))) 19 (upd (FB 19) n p3)) (upd (upd IM 6 (IM 6 &&& ((1 <<< (nI n &&& 31)) ^^^ (-1)))) 1 (nI (n + 1))) (va_up (va_up (va_up (va_up FM 2 (upd (FM 2) n p0)) 3 (upd (FM 3) n p1)) 4 (upd (FM 4) n (mLong p1 p2))) 5 (upd (FM 5) n p3)) (n + 1) fd sz w lv kl kn kw kf := by
  obtain ⟨q_b3, q_m1, q_n6, q_b4, q_m6, q_ww, q_ev, q_b6, q_m9, q_f6, q_b2, q_m13, q_s21, q_b1, q_m0, q_lN, q_b7, q_m20, q_kn6, q_b8, q_m21, q_kww, q_kev, q_b10, q_m23, q_kf6, q_m19, q_kle, q_kept, q_rows, q_ink, q_fnd, q_kink, q_kfnd, q_pg⟩ := h
  obtain ⟨o0, o1, o2, o3, o4⟩ := okW_n hs0
  have h6 : IM 6 &&& ((1 <<< (nI n &&& 31)) ^^^ (-1)) = nI w := by rw [q_m6]; exact sd_new n (by omega) w q_ww
  exact ⟨rfl, rfl, hs1, q_b4, h6, (by rw [Nat.pow_succ]; omega), q_ev, q_b6, q_m9, q_f6, q_b2, q_m13, q_s21, q_b1, q_m0, Nat.le_succ_of_le q_lN, q_b7, q_m20, q_kn6, q_b8, q_m21, q_kww, q_kev, q_b10, q_m23, q_kf6, q_m19, q_kle, q_kept, (okRows_upd q_rows rfl rfl rfl rfl rfl rfl rfl rfl (long_eq o1 o2 o3) (okSt_of o0 o1 o2 o3 o4)), q_ink, q_fnd, q_kink, q_kfnd, q_pg⟩
theorem LI_evening {N : Nat} {IB IM : Nat → Int32} {FB FM : Nat → Nat → Int32} {n fd sz w lv kl kn kw kf : Nat} {x : Int32} (h : LI N IB FB IM FM n fd sz w lv kl kn kw kf) : LI (N + 1) (upd IB 5 (IB 5 + 1)) (va_up FB 8 (rowN (cPress FB (IB 4) n x (FB 8)) (FB 8) 10)) (upd IM 8 (IM 8 + 1)) (va_up FM 7 (rowN (mPress FM (IM 6) n x (FM 7)) (FM 7) 10)) n fd sz w lv kl kn kw kf := by
  obtain ⟨q_b3, q_m1, q_n6, q_b4, q_m6, q_ww, q_ev, q_b6, q_m9, q_f6, q_b2, q_m13, q_s21, q_b1, q_m0, q_lN, q_b7, q_m20, q_kn6, q_b8, q_m21, q_kww, q_kev, q_b10, q_m23, q_kf6, q_m19, q_kle, q_kept, q_rows, q_ink, q_fnd, q_kink, q_kfnd, q_pg⟩ := h
  have he : IM 8 + 1 = IB 5 + 1 := by rw [q_ev]
  have hi : ∀ c, c < 10 → rowN (cPress FB (IB 4) n x (FB 8)) (FB 8) 10 c = rowN (mPress FM (IM 6) n x (FM 7)) (FM 7) 10 c := by
    intro c hc
    rw [rowN_in hc, rowN_in hc, q_b4, q_m6]
    exact press_eq q_n6 q_rows (q_ink c hc)
  exact ⟨q_b3, q_m1, q_n6, q_b4, q_m6, q_ww, he, q_b6, q_m9, q_f6, q_b2, q_m13, q_s21, q_b1, q_m0, Nat.le_succ_of_le q_lN, q_b7, q_m20, q_kn6, q_b8, q_m21, q_kww, q_kev, q_b10, q_m23, q_kf6, q_m19, q_kle, q_kept, q_rows, hi, q_fnd, q_kink, q_kfnd, q_pg⟩
theorem LI_look {N : Nat} {IB IM : Nat → Int32} {FB FM : Nat → Nat → Int32} {n fd sz w lv kl kn kw kf : Nat} {x y : Nat → Int32} (h : LI N IB FB IM FM n fd sz w lv kl kn kw kf) : LI (N + 1) IB (va_up FB 6 x) IM (va_up FM 15 y) n fd sz w lv kl kn kw kf := by
  obtain ⟨q_b3, q_m1, q_n6, q_b4, q_m6, q_ww, q_ev, q_b6, q_m9, q_f6, q_b2, q_m13, q_s21, q_b1, q_m0, q_lN, q_b7, q_m20, q_kn6, q_b8, q_m21, q_kww, q_kev, q_b10, q_m23, q_kf6, q_m19, q_kle, q_kept, q_rows, q_ink, q_fnd, q_kink, q_kfnd, q_pg⟩ := h
  exact ⟨q_b3, q_m1, q_n6, q_b4, q_m6, q_ww, q_ev, q_b6, q_m9, q_f6, q_b2, q_m13, q_s21, q_b1, q_m0, Nat.le_succ_of_le q_lN, q_b7, q_m20, q_kn6, q_b8, q_m21, q_kww, q_kev, q_b10, q_m23, q_kf6, q_m19, q_kle, q_kept, q_rows, q_ink, q_fnd, q_kink, q_kfnd, q_pg⟩
theorem LI_lookB {N : Nat} {IB IM : Nat → Int32} {FB FM : Nat → Nat → Int32} {n fd sz w lv kl kn kw kf : Nat} {x : Nat → Int32} (h : LI N IB FB IM FM n fd sz w lv kl kn kw kf) : LI (N + 1) IB (va_up FB 6 x) IM FM n fd sz w lv kl kn kw kf := by
  obtain ⟨q_b3, q_m1, q_n6, q_b4, q_m6, q_ww, q_ev, q_b6, q_m9, q_f6, q_b2, q_m13, q_s21, q_b1, q_m0, q_lN, q_b7, q_m20, q_kn6, q_b8, q_m21, q_kww, q_kev, q_b10, q_m23, q_kf6, q_m19, q_kle, q_kept, q_rows, q_ink, q_fnd, q_kink, q_kfnd, q_pg⟩ := h
  exact ⟨q_b3, q_m1, q_n6, q_b4, q_m6, q_ww, q_ev, q_b6, q_m9, q_f6, q_b2, q_m13, q_s21, q_b1, q_m0, Nat.le_succ_of_le q_lN, q_b7, q_m20, q_kn6, q_b8, q_m21, q_kww, q_kev, q_b10, q_m23, q_kf6, q_m19, q_kle, q_kept, q_rows, q_ink, q_fnd, q_kink, q_kfnd, q_pg⟩
theorem LI_years {N : Nat} {IB IM : Nat → Int32} {FB FM : Nat → Nat → Int32} {n fd sz w lv kl kn kw kf : Nat} {x y z : Nat → Int32} (h : LI N IB FB IM FM n fd sz w lv kl kn kw kf) : LI (N + 1) IB (va_up FB 5 x) IM (va_up (va_up FM 17 y) 7 (rowN (rowN (FM 7) (FM 17) 10) z 10)) n fd sz w lv kl kn kw kf := by
  obtain ⟨q_b3, q_m1, q_n6, q_b4, q_m6, q_ww, q_ev, q_b6, q_m9, q_f6, q_b2, q_m13, q_s21, q_b1, q_m0, q_lN, q_b7, q_m20, q_kn6, q_b8, q_m21, q_kww, q_kev, q_b10, q_m23, q_kf6, q_m19, q_kle, q_kept, q_rows, q_ink, q_fnd, q_kink, q_kfnd, q_pg⟩ := h
  have hi : ∀ c, c < 10 → FB 8 c = rowN (rowN (FM 7) (FM 17) 10) z 10 c := by
    intro c hc
    rw [rowN_in hc, rowN_in hc]
    exact q_ink c hc
  exact ⟨q_b3, q_m1, q_n6, q_b4, q_m6, q_ww, q_ev, q_b6, q_m9, q_f6, q_b2, q_m13, q_s21, q_b1, q_m0, Nat.le_succ_of_le q_lN, q_b7, q_m20, q_kn6, q_b8, q_m21, q_kww, q_kev, q_b10, q_m23, q_kf6, q_m19, q_kle, q_kept, q_rows, hi, q_fnd, q_kink, q_kfnd, q_pg⟩
theorem LI_image {N : Nat} {IB IM : Nat → Int32} {FB FM : Nat → Nat → Int32} {n fd sz w lv kl kn kw kf : Nat} (hn31 : N < 1000000) (h : LI N IB FB IM FM n fd sz w lv kl kn kw kf) : LI (N + 1) (upd (upd (upd (upd (upd IB 7 (IB 3)) 8 (IB 4)) 9 (IB 5)) 10 (IB 6)) 0 1) (va_up (va_up (va_up (va_up FB 12 (rowN (FB 8) (FB 12) 10)) 13 (rowN (FB 9) (FB 13) 6)) 14 (rowN (FB 10) (FB 14) 6)) 15 (rowN (FB 11) (FB 15) 6)) (upd (upd (upd (upd (upd (upd IM 18 1) 19 (IM 0)) 20 (nI n)) 21 (IM 6)) 22 (IM 8)) 23 (IM 9)) (va_up (va_up (va_up (va_up FM 24 (rowN (FM 7) (FM 24) 10)) 25 (rowN (FM 10) (FM 25) 6)) 26 (rowN (FM 11) (FM 26) 6)) 27 (rowN (FM 12) (FM 27) 6)) n fd sz w lv lv n w fd := by
  obtain ⟨q_b3, q_m1, q_n6, q_b4, q_m6, q_ww, q_ev, q_b6, q_m9, q_f6, q_b2, q_m13, q_s21, q_b1, q_m0, q_lN, q_b7, q_m20, q_kn6, q_b8, q_m21, q_kww, q_kev, q_b10, q_m23, q_kf6, q_m19, q_kle, q_kept, q_rows, q_ink, q_fnd, q_kink, q_kfnd, q_pg⟩ := h
  have hk : (¬ (1 : Int32) = 0) ↔ (¬ (1 : Int32) = 0 ∧ lv = lv) := ⟨fun q => ⟨q, rfl⟩, fun q => q.1⟩
  have hi : ∀ c, c < 10 → rowN (FB 8) (FB 12) 10 c = rowN (FM 7) (FM 24) 10 c := by
    intro c hc
    rw [rowN_in hc, rowN_in hc]; exact q_ink c hc
  have hj : ∀ i, i < 6 → rowN (FB 9) (FB 13) 6 i = rowN (FM 10) (FM 25) 6 i ∧ rowN (FB 10) (FB 14) 6 i = rowN (FM 11) (FM 26) 6 i ∧ rowN (FB 11) (FB 15) 6 i = rowN (FM 12) (FM 27) 6 i := by
    intro i hi2
    rw [rowN_in hi2, rowN_in hi2, rowN_in hi2, rowN_in hi2, rowN_in hi2, rowN_in hi2]; exact q_fnd i hi2
  exact ⟨q_b3, q_m1, q_n6, q_b4, q_m6, q_ww, q_ev, q_b6, q_m9, q_f6, q_b2, q_m13, q_s21, q_b1, q_m0, Nat.le_succ_of_le q_lN, q_b3, rfl, q_n6, q_b4, q_m6, q_ww, q_ev, q_b6, q_m9, q_f6, q_m0, Nat.le_refl lv, hk, q_rows, q_ink, q_fnd, hi, hj, q_pg⟩
theorem LI_restore {N : Nat} {IB IM : Nat → Int32} {FB FM : Nat → Nat → Int32} {n fd sz w lv kl kn kw kf : Nat}  (h : LI N IB FB IM FM n fd sz w lv kl kn kw kf) : LI (N + 1) (upd (upd (upd (upd IB 3 (IB 7)) 4 (IB 8)) 5 (IB 9)) 6 (IB 10)) (va_up (va_up (va_up (va_up FB 8 (rowN (FB 12) (FB 8) 10)) 9 (rowN (FB 13) (FB 9) 6)) 10 (rowN (FB 14) (FB 10) 6)) 11 (rowN (FB 15) (FB 11) 6)) (upd (upd (upd (upd IM 1 (IM 20)) 6 (IM 21)) 8 (IM 22)) 9 (IM 23)) (va_up (va_up (va_up (va_up FM 7 (rowN (FM 24) (FM 7) 10)) 10 (rowN (FM 25) (FM 10) 6)) 11 (rowN (FM 26) (FM 11) 6)) 12 (rowN (FM 27) (FM 12) 6)) kn kf sz kw lv kl kn kw kf := by
  obtain ⟨q_b3, q_m1, q_n6, q_b4, q_m6, q_ww, q_ev, q_b6, q_m9, q_f6, q_b2, q_m13, q_s21, q_b1, q_m0, q_lN, q_b7, q_m20, q_kn6, q_b8, q_m21, q_kww, q_kev, q_b10, q_m23, q_kf6, q_m19, q_kle, q_kept, q_rows, q_ink, q_fnd, q_kink, q_kfnd, q_pg⟩ := h
  have hi : ∀ c, c < 10 → rowN (FB 12) (FB 8) 10 c = rowN (FM 24) (FM 7) 10 c := by
    intro c hc
    rw [rowN_in hc, rowN_in hc]; exact q_kink c hc
  have hj : okFnd (va_up (va_up (va_up (va_up FB 8 (rowN (FB 12) (FB 8) 10)) 9 (rowN (FB 13) (FB 9) 6)) 10 (rowN (FB 14) (FB 10) 6)) 11 (rowN (FB 15) (FB 11) 6)) (va_up (va_up (va_up (va_up FM 7 (rowN (FM 24) (FM 7) 10)) 10 (rowN (FM 25) (FM 10) 6)) 11 (rowN (FM 26) (FM 11) 6)) 12 (rowN (FM 27) (FM 12) 6)) := by
    intro i hi2
    show rowN (FB 13) (FB 9) 6 i = rowN (FM 25) (FM 10) 6 i ∧ rowN (FB 14) (FB 10) 6 i = rowN (FM 26) (FM 11) 6 i ∧ rowN (FB 15) (FB 11) 6 i = rowN (FM 27) (FM 12) 6 i
    rw [rowN_in hi2, rowN_in hi2, rowN_in hi2, rowN_in hi2, rowN_in hi2, rowN_in hi2]; exact q_kfnd i hi2
  exact ⟨q_b7, q_m20, q_kn6, q_b8, q_m21, q_kww, q_kev, q_b10, q_m23, q_kf6, q_b2, q_m13, q_s21, q_b1, q_m0, Nat.le_succ_of_le q_lN, q_b7, q_m20, q_kn6, q_b8, q_m21, q_kww, q_kev, q_b10, q_m23, q_kf6, q_m19, q_kle, q_kept, q_rows, hi, hj, q_kink, q_kfnd, q_pg⟩
theorem LI_leaf {N : Nat} {IB IM : Nat → Int32} {FB FM : Nat → Nat → Int32} {n fd sz w lv kl kn kw kf : Nat} (hL : mIsL (FM 14) sz) (h : LI N IB FB IM FM n fd sz w lv kl kn kw kf) : LI (N + 1) (upd (upd (upd (upd (upd (upd (upd IB 3 (nI ((sz + 1) / 5))) 4 0) 5 0) 6 0) 0 0) 1 (IB 1 + 1)) 2 0) (va_up (va_up (va_up (va_up (va_up FB 16 (rowN (fun s => cKind (FB 7 (5 * s))) (FB 16) ((sz + 1) / 5))) 17 (rowN (fun s => FB 7 (5 * s + 1) - 48) (FB 17) ((sz + 1) / 5))) 18 (rowN (fun s => if (10 : Int32) - (FB 7 (5 * s + 1) - 48) < FB 7 (5 * s + 2) - 48 then (10 : Int32) - (FB 7 (5 * s + 1) - 48) else FB 7 (5 * s + 2) - 48) (FB 18) ((sz + 1) / 5))) 19 (rowN (fun s => FB 7 (5 * s + 3) - 48) (FB 19) ((sz + 1) / 5))) 8 (rowN (fun _ => 0) (FB 8) 10)) (upd (upd (upd (upd (upd (upd IM 1 (nI ((sz + 1) / 5))) 0 (IM 0 + 1)) 6 0) 8 0) 9 0) 13 0) (va_up (va_up (va_up (va_up (va_up FM 2 (rowN (fun s => mKind (FM 14 (5 * s))) (FM 2) ((sz + 1) / 5))) 3 (rowN (fun s => FM 14 (5 * s + 1) - 48) (FM 3) ((sz + 1) / 5))) 4 (rowN (fun s => mLong (FM 14 (5 * s + 1) - 48) (FM 14 (5 * s + 2) - 48)) (FM 4) ((sz + 1) / 5))) 5 (rowN (fun s => FM 14 (5 * s + 3) - 48) (FM 5) ((sz + 1) / 5))) 7 (rowN (fun _ => 0) (FM 7) 10)) ((sz + 1) / 5) 0 0 0 (lv + 1) kl kn kw kf := by
  obtain ⟨q_b3, q_m1, q_n6, q_b4, q_m6, q_ww, q_ev, q_b6, q_m9, q_f6, q_b2, q_m13, q_s21, q_b1, q_m0, q_lN, q_b7, q_m20, q_kn6, q_b8, q_m21, q_kww, q_kev, q_b10, q_m23, q_kf6, q_m19, q_kle, q_kept, q_rows, q_ink, q_fnd, q_kink, q_kfnd, q_pg⟩ := h
  have h1 : IB 1 + 1 = nI (lv + 1) := by rw [q_b1]; exact nI_1 _
  have h0 : IM 0 + 1 = nI (lv + 1) := by rw [q_m0]; exact nI_1 _
  have hk : (¬ (0 : Int32) = 0) ↔ (¬ IM 18 = 0 ∧ kl = lv + 1) := ⟨fun q => absurd rfl q, fun q => absurd q.2 (by omega)⟩
  have hi : ∀ c, c < 10 → rowN (fun _ => 0) (FB 8) 10 c = rowN (fun _ => 0) (FM 7) 10 c := by
    intro c hc
    rw [rowN_in hc, rowN_in hc]
  exact ⟨rfl, rfl, (by omega), rfl, rfl, Nat.two_pow_pos _, rfl, rfl, rfl, Nat.zero_le 6, rfl, rfl, Nat.zero_le 21, h1, h0, Nat.succ_le_succ q_lN, q_b7, q_m20, q_kn6, q_b8, q_m21, q_kww, q_kev, q_b10, q_m23, q_kf6, q_m19, Nat.le_succ_of_le q_kle, hk, (okRows_new q_rows rfl rfl rfl rfl rfl rfl rfl rfl (leaf_new q_s21 q_pg hL)), hi, q_fnd, q_kink, q_kfnd, (fun i hi => absurd hi (by omega))⟩
theorem LI_start : LI 0 (fun _ => 0) (fun _ _ => 0) (fun _ => 0) (fun _ _ => 0) 0 0 0 0 0 0 0 0 0 := by
  exact ⟨rfl, rfl, (by decide), rfl, rfl, (by decide), rfl, rfl, rfl, (by decide), rfl, rfl, (by decide), rfl, rfl, (by decide), rfl, rfl, (by decide), rfl, rfl, (by decide), rfl, rfl, rfl, (by decide), rfl, (by decide), ⟨fun q => absurd rfl q, fun q => q.1⟩, (fun _ _ => ⟨rfl, rfl, rfl, rfl, 0, 0, 0, 0, by decide, by decide, by decide, by decide, by decide, rfl, rfl, rfl, rfl⟩), (fun _ _ => rfl), (fun _ _ => ⟨rfl, rfl, rfl⟩), (fun _ _ => rfl), (fun _ _ => ⟨rfl, rfl, rfl⟩), (fun i hi => absurd hi (by omega))⟩
theorem LI_kept {N : Nat} {IB IM : Nat → Int32} {FB FM : Nat → Nat → Int32} {n fd sz w lv kl kn kw kf : Nat} (hN2 : N < 1000000) (h : LI N IB FB IM FM n fd sz w lv kl kn kw kf) : (¬ IB 0 = 0) ↔ (¬ IM 18 = 0 ∧ IM 19 = IM 0) := by
  obtain ⟨q_b3, q_m1, q_n6, q_b4, q_m6, q_ww, q_ev, q_b6, q_m9, q_f6, q_b2, q_m13, q_s21, q_b1, q_m0, q_lN, q_b7, q_m20, q_kn6, q_b8, q_m21, q_kww, q_kev, q_b10, q_m23, q_kf6, q_m19, q_kle, q_kept, q_rows, q_ink, q_fnd, q_kink, q_kfnd, q_pg⟩ := h
  rw [q_m19, q_m0, nI_eq (by omega) (by omega)]
  exact q_kept
