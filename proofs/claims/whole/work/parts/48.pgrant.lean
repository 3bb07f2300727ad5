/-! THE PURE PART: wishes are granted: single changes -/
section PGR
variable {s b c : Nat} {α : Nat → Nat → Nat} {z : Nat → Nat} {S : Nat → Nat → Int32} {n : Nat → Nat}
theorem set9 {lo hi v : Nat} {K : Nat → Prop} (hi' : Gi s b c α z lo hi K) (hr : RS s c α z S) (hk2 : hi < α 0 12) (hv : Ob s c α z v) (h10 : ∀ j, j < α 0 14 → EE s c α z v (α 10 j)) (h9 : ∀ i, i < α 0 12 → i < lo ∨ hi + 1 ≤ i → EE s c α z v (α 9 i)) : Gi s b c (upN α 9 lo v) z (lo + 1) (hi + 1) K ∧ RS s c (upN α 9 lo v) z (up2 S 19 lo (nI v)) := by
  obtain ⟨hn, hs, hz, hw, hff, hl, hd, hq, hrr, hk⟩ := hi'
  obtain ⟨l1, l0, l2, l3, l4, l5, l6⟩ := hl
  obtain ⟨d1, d2, d3⟩ := hd
  obtain ⟨q1, q2, q3, q4, q5⟩ := RS_item (k := 19) (i := lo) (x := nI v) (by omega) (by omega) (by omega) hr
  obtain ⟨r0, r01, r02, ⟨r1, r2⟩, r3⟩ := hr.2.1
  refine ⟨⟨hn, hs, hz, hw, hff, ⟨l1, l0, l2, l3, ⟨by omega, hk2, ?_, l4.2.2.2⟩, fun i hi ha => ?_, l6⟩, ⟨fun i j hij hj ai aj => ?_, d2, fun i j hi hj ha => ?_⟩, hq, hrr, hk⟩, q1, ⟨r0, r01, r02, ⟨r1, fun i hi => ?_⟩, r3⟩, q2, q3, q4, q5⟩
  · show lo + 1 + (α 0 12 - (hi + 1)) + α 0 14 ≤ _
    omega
  · rw [up_at]
    split
    · exact hv
    · exact l5 i hi (by omega)
  · show EE s c α z _ _
    rw [up_at, up_at]
    have hj' : j < α 0 12 := hj
    by_cases e1 : i = lo
    · rw [if_pos e1, if_neg (by omega)]
      exact h9 j hj' (by omega)
    · rw [if_neg e1]
      by_cases e2 : j = lo
      · rw [if_pos e2]
        exact EE_sym (h9 i (by omega) (by omega))
      · rw [if_neg e2]
        exact d1 i j hij hj (by omega) (by omega)
  · show EE s c α z _ (α 10 j)
    rw [up_at]
    split
    · exact h10 j hj
    · exact d3 i j hi hj (by omega)
  · rw [up_at]
    exact it_in rfl r2 i hi
theorem J_head {lo hi r : Nat} {K : Nat → Prop} (hi' : Gi s b c α z lo hi K) (hr : RS s c α z S) (ho : OU s α z r) : Gi s b c (upN α 1 r (α 1 r % 64)) z lo hi K ∧ RS s c (upN α 1 r (α 1 r % 64)) z (up2 S 26 r (nI (α 1 r % 64))) := by
  obtain ⟨hn, hs, hz, hw, hff, hl, hd, hq, hrr, hk⟩ := hi'
  have e1 : ∀ x, x ≠ r → upN α 1 r (α 1 r % 64) 1 x = α 1 x := fun x hx => upN_ne _ (Or.inr hx)
  have hzo : ∀ o, Ob s c α z o → ∀ f, o + 2 ≤ f → f < o + z o → f ≠ r := fun o hob f h1 h2 e => by
    have : z f = 0 := by
      rcases hob with q | q
      · exact (OU_pz hz q).2.2.2 f (by omega) h2
      · exact (OF_pz hz q).2.2.2 f (by omega) h2
    exact ho.2 (e ▸ this)
  refine ⟨⟨hn, hs, hz, fun o hob => ⟨?_, fun f h1 h2 => ?_⟩, hff, hl, hd, hq, hrr, fun x h1 h2 => ?_⟩, ?_⟩
  · have h := (hw o hob).1
    by_cases e : o = r
    · rw [e] at h ⊢
      rw [upN_hit]
      unfold HD at h ⊢
      omega
    · rw [e1 o e]
      exact h
  · rw [e1 f (hzo o hob f h1 h2)]
    exact (hw o hob).2 f h1 h2
  · have h3 := hk x h1 h2
    refine ⟨h3.1, ?_⟩
    unfold DN
    obtain ⟨o, p1, p2, p3⟩ := h2
    rw [e1 x (hzo o (Or.inl p1) x p2 p3)]
    exact h3.2
  · obtain ⟨rg, rl, rr, rw', rc, rm⟩ := hr
    have row : ∀ k, k ≠ 26 → up2 S 26 r (nI (α 1 r % 64)) k = S k := fun k h1 => up2_row _ h1
    refine ⟨?_, ?_, ?_, ?_, ?_, ?_⟩
    · intro g hg
      rw [row (3 + g) (by omega)]
      exact rg g hg
    · unfold RLs at rl ⊢
      rw [row 6 (by omega), row 7 (by omega), row 8 (by omega), row 9 (by omega), row 10 (by omega), row 11 (by omega), row 16 (by omega), row 17 (by omega), row 18 (by omega), row 19 (by omega), row 20 (by omega), row 21 (by omega)]
      exact rl
    · intro k hr
      have := rrow_in (S 1 8) hr
      rw [row 1 (by omega), row _ (by omega), row _ (by omega)]
      exact rr k hr
    · constructor
      · intro x hx h0
        have : x ≠ r := fun q => UF_no hn ho.1 (q ▸ hx.1)
        rw [up2_mis _ _ this]
        exact rw'.1 x hx h0
      · intro x hx h0
        by_cases e : x = r
        · rw [e, up2_hit, upN_hit]
        · rw [up2_mis _ _ e, e1 x e]
          exact rw'.2 x hx h0
    · unfold RC at rc ⊢
      rw [row 1 (by omega)]
      exact rc
    · unfold RM at rm ⊢
      rw [row 2 (by omega), row 27 (by omega), row 28 (by omega)]
      exact rm
theorem add10 {lo hi v : Nat} {K : Nat → Prop} (hi' : Gi s b c α z lo hi K) (hr : RS s c α z S) (hk2 : hi < α 0 12) (hv : Ob s c α z v) (h10 : ∀ j, j < α 0 14 → EE s c α z v (α 10 j)) (h9 : ∀ i, i < α 0 12 → i < lo ∨ hi + 1 ≤ i → EE s c α z v (α 9 i)) : Gi s b c (upN (upN α 10 (α 0 14) v) 0 14 (α 0 14 + 1)) z lo (hi + 1) K ∧ RS s c (upN (upN α 10 (α 0 14) v) 0 14 (α 0 14 + 1)) z (rmS S 10 (α 0 14) (nI v)) := by
  obtain ⟨hn, hs, hz, hw, hff, hl, hd, hq, hrr, hk⟩ := hi'
  obtain ⟨l1, l0, l2, l3, l4, l5, l6⟩ := hl
  obtain ⟨d1, d2, d3⟩ := hd
  obtain ⟨rg, rl, rr, rw', rc, rm⟩ := hr
  have row : ∀ k, k ≠ 10 → k ≠ 20 → rmS S 10 (α 0 14) (nI v) k = S k := fun k h1 h2 => by
    unfold rmS
    rw [up2_row _ h1, up2_row _ h2]
  have at10 : ∀ i, upN (upN α 10 (α 0 14) v) 0 14 (α 0 14 + 1) 10 i = if i = α 0 14 then v else α 10 i := fun i => by
    rw [upN_row _ (by omega), up_at]
  refine ⟨⟨hn, hs, hz, hw, hff, ⟨l1, l0, l2, l3, ⟨?_, hk2, ?_, l4.2.2.2⟩, fun i hi ha => l5 i hi (by omega), fun i hi => ?_⟩, ⟨fun i j hij hj ai aj => d1 i j hij hj (by omega) (by omega), fun i j hij hj => ?_, fun i j hi hj ha => ?_⟩, hq, hrr, hk⟩, ?_, ?_, ?_, ?_, ?_, ?_⟩
  · omega
  · show lo + (α 0 12 - (hi + 1)) + (α 0 14 + 1) ≤ _
    omega
  · rw [at10]
    have hi2 : i < α 0 14 + 1 := hi
    split
    · exact hv
    · exact l6 i (by omega)
  · show EE s c α z _ _
    have hj2 : j < α 0 14 + 1 := hj
    rw [at10, at10, if_neg (by omega)]
    by_cases e : j = α 0 14
    · rw [if_pos e]
      exact EE_sym (h10 i (by omega))
    · rw [if_neg e]
      exact d2 i j hij (by omega)
  · show EE s c α z (α 9 i) _
    have hj2 : j < α 0 14 + 1 := hj
    rw [at10]
    by_cases e : j = α 0 14
    · rw [if_pos e]
      exact EE_sym (h9 i hi (by omega))
    · rw [if_neg e]
      exact d3 i j hi (by omega) (by omega)
  · intro g hg
    rw [row (3 + g) (by omega) (by omega)]
    exact rg g hg
  · unfold RLs at rl ⊢
    rw [row 6 (by omega) (by omega), row 7 (by omega) (by omega), row 8 (by omega) (by omega), row 9 (by omega) (by omega), row 11 (by omega) (by omega), row 16 (by omega) (by omega), row 17 (by omega) (by omega), row 18 (by omega) (by omega), row 19 (by omega) (by omega), row 21 (by omega) (by omega)]
    refine ⟨rl.1, rl.2.1, rl.2.2.1, rl.2.2.2.1, ⟨?_, fun i hi => ?_⟩, rl.2.2.2.2.2⟩
    · unfold rmS
      rw [up2_hit]
      rfl
    · have hi2 : i < α 0 14 + 1 := hi
      rw [at10]
      unfold rmS
      rw [up2_row _ (by omega), up2_get]
      by_cases e : i = α 0 14
      · rw [if_pos ⟨rfl, e⟩, if_pos e]
      · rw [if_neg (fun q => e q.2), if_neg e]
        exact rl.2.2.2.2.1.2 i (by omega)
  · intro k hr
    have := rrow_in (S 1 8) hr
    rw [row 1 (by omega) (by omega), row _ (by omega) (by omega), row _ (by omega) (by omega)]
    exact rr k hr
  · unfold RW at rw' ⊢
    rw [row 26 (by omega) (by omega)]
    exact rw'
  · unfold RC at rc ⊢
    rw [row 1 (by omega) (by omega)]
    exact rc
  · unfold RM at rm ⊢
    rw [row 2 (by omega) (by omega), row 27 (by omega) (by omega), row 28 (by omega) (by omega)]
    exact rm
end PGR
