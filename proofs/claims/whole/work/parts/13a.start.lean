/-! THE START: what the machine keeps, and the kept text -/
def vwD0 (c0 c1 c2 c3 c4 : ClassId) (i0 i1 i2 i3 i4 : Nat → Nat) : va_G := (fun k => match k with | 0 => c0 | 1 => c1 | 2 => c2 | 3 => c3 | _ => c4, fun k => match k with | 0 => i0 | 1 => i1 | 2 => i2 | 3 => i3 | _ => i4)
theorem start_K {args : Array Value} {s : State} (hts : ∀ w ∈ lw_tbl, w.before args s = true) (hover : (Cond.arrayOver (.object RX2)).before args s = true) : ∃ (D : va_G) (cI cB cS : ClassId), KK D (TYS cI cB cS) s ∧ va_AO RX2 s := by
  have hG : ∀ w ∈ wsG, w.before args s = true := fun w h => hts w (wsG_tbl w h)
  obtain ⟨c0, i0, k0⟩ := u_known hG inlX0 (hG _ kw_13)
  obtain ⟨c1, i1, k1⟩ := u_known hG inlX1 (hG _ kw_19)
  obtain ⟨c2, i2, k2⟩ := u_known hG inlX2 (hG _ kw_28)
  obtain ⟨c3, i3, k3⟩ := u_known hG inlX3 (hG _ kw_2)
  obtain ⟨c4, i4, k4⟩ := u_known hG inlX4 (hG _ kw_5)
  obtain ⟨cI, kI, qI, a1, a2, a3⟩ := Cond.arrayClass_spec (hG _ kw_25)
  obtain ⟨cB, kB, qB, b1, b2, b3⟩ := Cond.arrayClass_spec (hG _ kw_67)
  obtain ⟨qS, cS, kS, d1, d2, d3, d4, d5⟩ := Cond.arrayOver_spec hover
  refine ⟨vwD0 c0 c1 c2 c3 c4 i0 i1 i2 i3 i4, cI, cB, cS, ⟨⟨fun c q hq => ?_, fun k q hk => ?_⟩, NF.of hts⟩, va_AO.of hover⟩
  · match c, hq with
    | 0, hq => cases hq; exact k0
    | 1, hq => cases hq; exact k1
    | 2, hq => cases hq; exact k2
    | 3, hq => cases hq; exact k3
    | 4, hq => cases hq; exact k4
    | c + 5, hq => simp [vwCl] at hq
  · match k, hk with
    | 0, hk => cases hk; exact ⟨fun N z => ⟨(fun k h => by cases h), kI, a2, qI, a3⟩, a1⟩
    | 1, hk => cases hk; exact ⟨fun N z => ⟨(fun k h => by cases h), kB, b2, qB, b3⟩, b1⟩
    | 2, hk => cases hk; exact ⟨fun N z => ⟨(fun k h => by cases h), kS, d3, qS, d4⟩, kS, qS, d3, d4, d1, d5⟩
    | k + 3, hk => simp [TYS] at hk
theorem start_S {args : Array Value} {s : State} (h : (Jvm.Cond.and given_1 narrow_1).before args s = true) (hl : (Cond.laysStatic "java/lang/String" "COMPACT_STRINGS" "Z").before args s = true) (hini : (Cond.initialized "java/lang/String").before args s = true) (href : (Cond.stringRef RX0 23 "sbqft").before args s = true) : ∃ ks vs : Nat, SF ks vs (fun q => s.heap.size ≤ q) s s.heap := by
  have hs := flat_of_before _ h
  have hA : ∀ a : Nat, a < s.heap.size → ¬ s.heap.size ≤ a := fun a q => Nat.not_le.mpr q
  obtain ⟨adK, adV, ⟨g1, -⟩, g2⟩ := vk_Sof (args := args) (s := s) (N := 1) (tm := fun _ => Term.string RX0 23) (len := [5]) (byt := [[115, 98, 113, 102, 116]]) (A := fun q => s.heap.size ≤ q) (by decide) (fun _ _ => hs _ (by decide +kernel)) (fun _ _ => hs _ (by decide +kernel)) (fun _ _ => hs _ (by decide +kernel)) (fun i hi => by
      match i, hi with
      | 0, _ => exact hs _ (by decide +kernel)) (fun i hi j hj => by
      match i, hi, j, hj with
      | 0, _, 0, _ => exact hs _ (by decide +kernel)
      | 0, _, 1, _ => exact hs _ (by decide +kernel)
      | 0, _, 2, _ => exact hs _ (by decide +kernel)
      | 0, _, 3, _ => exact hs _ (by decide +kernel)
      | 0, _, 4, _ => exact hs _ (by decide +kernel)
      | 0, _, j + 5, hj => exact absurd hj (by simp)) (fun i j hi hj hij => absurd (show i = j by omega) hij) hA
  obtain ⟨o1, o2, o3, o4⟩ := g1 0 (by decide)
  exact ⟨adK 0, adV 0, o1, o2, o3, o4, va_Zof hl hini (va_eqt (hs _ (by decide +kernel))) hA, vk_R.of href (g2 0 (by decide))⟩
