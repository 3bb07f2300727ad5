/-! THE PURE PART: after a collection -/
section PE2
variable {s b c nr ns : Nat} {n : Nat → Nat} {β : Nat → Nat → Nat} {h22 : Nat → Nat} {z : Nat → Nat} {α : Nat → Nat → Nat} {S : Nat → Nat → Int32}
def enA (α : Nat → Nat → Nat) (g0 : Nat) : Nat → Nat → Nat := upN (upN α 16 g0 (α 16 g0 + 1)) 0 24 (α 0 24 + α 0 32)
theorem Ob_U0 {x : Nat} (h : OU s α z x) : Ob s 0 α z x := Or.inl h
theorem EE_0 {x y : Nat} (h : EE s c α z x y) : EE s 0 α z x y := ⟨h.1, fun q => absurd q (no_OF rfl), fun q => absurd q (no_OF rfl)⟩
theorem J_end_Gi {g0 N : Nat} (hN : N = α 0 12) (hg : IG s b c α z S N N (KS s β h22) β h22 16 (α 0 9) 1000) (hsc : ∀ g, g < 3 → h22 g = α 5 g) (hwk : ∀ i, i < 8 → UU s α z (α 8 i)) : Gi s b 0 (enA α g0) z 0 0 (fun _ => True) := by
  obtain ⟨gi, gk, gr, gx, gp⟩ := hg
  obtain ⟨hn, hs, hz, hw, hff, hl, hd, hq, hrr, hk⟩ := gi
  obtain ⟨l1, l0, l2, l3, l4, l5, l6⟩ := hl
  obtain ⟨d1, d2, d3⟩ := hd
  have hs1 := hn.1.2.1
  have hall : ∀ f, FU s α z f → DN s α z f := fun f hf => by
    refine (hk f ?_ hf).2
    have h1 := (FU_in hn hz hf).1
    have h2 := gx.2.2.1.1
    unfold KS
    rw [hsc _ (aG_lt s f)]
    unfold inU st at h1
    rw [h2] at h1
    exact h1.2
  refine ⟨⟨⟨hn.1.1, hn.1.2.1, by omega, hn.1.2.2.2.1, hn.1.2.2.2.2.1, hn.1.2.2.2.2.2.1, hn.1.2.2.2.2.2.2.1, hn.1.2.2.2.2.2.2.2.1, hn.1.2.2.2.2.2.2.2.2.1, Or.inl rfl⟩, fun g hg => ?_, fun g hg => by omega⟩, fun g hg => by omega, ⟨hz.1, fun g hg => by omega⟩, fun o ho => ?_, fun o ho => absurd ho (no_OF rfl), ⟨fun i hi => ?_, l0, fun i hi => ?_, fun i hi => (hwk i hi).imp_right Ob_U0, ⟨Nat.le_refl _, Nat.zero_le _, ?_, l4.2.2.2⟩, fun i hi _ => ?_, fun i hi => ?_⟩, ⟨fun i j hij hj _ _ => ?_, fun i j hij hj => EE_0 (d2 i j hij hj), fun i j hi hj _ => ?_⟩, hq, hrr, fun f _ hf => ⟨(FU_in hn hz hf).1.2, hall f hf⟩⟩
  · have := hn.2.1 g hg
    refine ⟨this.1, ?_, this.2.2⟩
    rw [if_neg (by omega)]
    show α 5 g + 0 ≤ _
    omega
  · have ho' : OU s α z o := Ob_0 ho
    refine ⟨(hw o (Or.inl ho')).1, fun f h1 h2 => ?_⟩
    rcases hall f ⟨o, ho', h1, h2⟩ with q | q
    · exact Or.inl q
    · exact Or.inr (Or.inl q.1)
  · exact (gp.1 i hi hi).imp_right Ob_U0
  · exact (gp.2.1 i hi hi).imp_right Ob_U0
  · show 0 + (α 0 12 - 0) + α 0 14 ≤ _
    omega
  · have hi2 : i < α 0 12 := hi
    exact Ob_U0 (gp.2.2.2 i (by omega) hi)
  · have hi2 : i < α 0 14 := hi
    exact Ob_U0 (gp.2.2.1 i (by omega) hi)
  · have hj2 : j < α 0 12 := hj
    exact EE_0 (d1 i j hij hj (by omega) (by omega))
  · have hi2 : i < α 0 12 := hi
    exact EE_0 (d3 i j hi hj (by omega))
theorem J_end_RS {g0 : Nat} (hg0 : g0 + 1 = c) (hn : Gn s b c α) (hr : RS s c α z S) : RS s 0 (enA α g0) z (up2 (eS S (g0 + 1)) (3 + g0) 9 (S (3 + g0) 9 + 1)) := by
  have hc3 := hn.1.2.2.1
  obtain ⟨rg, rl, rr, rw', rc, rm⟩ := hr
  have row : ∀ k, k < 3 ∨ 6 ≤ k → up2 (eS S (g0 + 1)) (3 + g0) 9 (S (3 + g0) 9 + 1) k = S k := fun k hk => by
    rw [up2_row _ (by omega)]
    funext i
    exact if_neg (by omega)
  refine ⟨?_, ?_, ?_, ?_, ?_, ?_⟩
  · intro k hk
    obtain ⟨q0, q1, q2, q3, q4, q5, q6, q7, q8, q9⟩ := rg k hk
    have mm : ∀ i, i ≠ 9 → i ≠ 6 → i ≠ 7 → up2 (eS S (g0 + 1)) (3 + g0) 9 (S (3 + g0) 9 + 1) (3 + k) i = S (3 + k) i := fun i h9 h6 h7 => by
      rw [up2_mis' _ h9]
      exact if_neg (by omega)
    have m6 : ∀ i, i = 6 ∨ i = 7 → S (3 + k) i = nI (if k < c then (if i = 6 then α 19 k else α 21 k) else 0) → up2 (eS S (g0 + 1)) (3 + g0) 9 (S (3 + g0) 9 + 1) (3 + k) i = nI 0 := fun i hi h => by
      rw [up2_mis' _ (by omega)]
      unfold eS
      by_cases e : k < c
      · rw [if_pos (by omega)]
        rfl
      · rw [if_neg (by omega), h, if_neg e]
    rw [mm 0 (by omega) (by omega) (by omega), mm 1 (by omega) (by omega) (by omega), mm 2 (by omega) (by omega) (by omega), mm 3 (by omega) (by omega) (by omega), mm 4 (by omega) (by omega) (by omega), mm 5 (by omega) (by omega) (by omega), mm 8 (by omega) (by omega) (by omega), m6 6 (Or.inl rfl) q6, m6 7 (Or.inr rfl) q7, if_neg (show ¬ k < 0 by omega), if_neg (show ¬ k < 0 by omega)]
    refine ⟨q0, q1, q2, q3, q4, q5, rfl, rfl, q8, ?_⟩
    have e16 : enA α g0 16 k = if k = g0 then α 16 g0 + 1 else α 16 k := by
      show upN α 16 g0 (α 16 g0 + 1) 16 k = _
      exact up_at
    rw [e16, up2_get]
    by_cases e : k = g0
    · subst e
      rw [if_pos ⟨rfl, rfl⟩, if_pos rfl, q9, nI_1]
    · rw [if_neg (by omega), if_neg e]
      show eS S (g0 + 1) (3 + k) 9 = _
      rw [show eS S (g0 + 1) (3 + k) 9 = S (3 + k) 9 from if_neg (by omega), q9]
  · unfold RLs at rl ⊢
    rw [row 6 (by omega), row 7 (by omega), row 8 (by omega), row 9 (by omega), row 10 (by omega), row 11 (by omega), row 16 (by omega), row 17 (by omega), row 18 (by omega), row 19 (by omega), row 20 (by omega), row 21 (by omega)]
    exact rl
  · intro k hr
    have := rrow_in (S 1 8) hr
    rw [row 1 (by omega), row _ (by omega), row _ (by omega)]
    exact rr k hr
  · constructor
    · intro x hx
      exact absurd hx (no_OF rfl)
    · intro x hx _
      rw [row 26 (by omega)]
      rcases hx with q | q
      · exact rw'.2 x (Or.inl q) (fun q2 => UF_no hn q q2.1.1)
      · have := q.1
        omega
  · obtain ⟨c1, c2, c3, c4⟩ := rc
    unfold RC
    rw [row 1 (by omega)]
    rw [if_neg (show ¬ c = 0 by omega)] at c3
    refine ⟨c1, c2, ?_, c4⟩
    rw [if_pos rfl, c3]
    rfl
  · unfold RM at rm ⊢
    rw [row 2 (by omega), row 27 (by omega), row 28 (by omega)]
    exact rm
end PE2
