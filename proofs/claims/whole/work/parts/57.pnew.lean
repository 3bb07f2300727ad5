/-! THE PURE PART: a new object: what is kept -/
def nwA (α : Nat → Nat → Nat) (a n0 hd lab : Nat) : Nat → Nat → Nat := fun k i =>
  if k = 1 then (if i = a then hd else if i = a + 1 then lab else if a + 2 ≤ i ∧ i < a + 2 + n0 then 0 else α 1 i)
  else if k = 5 then (if i = 0 then α 5 0 + n0 + 2 else α 5 i)
  else α k i
def nwS (S : Nat → Nat → Int32) (a n0 hd lab u : Nat) : Nat → Nat → Int32 := fun k i =>
  if k = 26 then (if i = a then nI hd else if i = a + 1 then nI lab else if a + 2 ≤ i ∧ i < a + 2 + n0 then nI 0 else S 26 i)
  else if k = 3 ∧ i = 5 then nI u
  else S k i
section PNW
variable {s b : Nat} {α : Nat → Nat → Nat} {z : Nat → Nat} {S : Nat → Nat → Int32} {n : Nat → Nat} {n0 hd lab : Nat}
theorem nw_fresh (hn : Gn s b 0 α) (hfit : α 5 0 + n0 + 2 ≤ sz s 0) {a : Nat} (h1 : st s α 0 + α 5 0 ≤ a) (h2 : a < st s α 0 + α 5 0 + (n0 + 2)) : aG s a = 0 ∧ ¬ inU s α a := by
  have h4 := hb_in (s := s) (h := α 4 0) (show 0 < 3 by omega)
  have e : aG s a = 0 := by
    unfold st at h1 h2
    exact aG_of (by omega) (by omega) (by omega)
  refine ⟨e, ?_⟩
  unfold inU
  rw [e]
  omega
theorem nw_inU (hn : Gn s b 0 α) (hfit : α 5 0 + n0 + 2 ≤ sz s 0) {a : Nat} : inU s (nwA α (st s α 0 + α 5 0) n0 hd lab) a ↔ inU s α a ∨ (st s α 0 + α 5 0 ≤ a ∧ a < st s α 0 + α 5 0 + (n0 + 2)) := by
  have e5 : ∀ i, nwA α (st s α 0 + α 5 0) n0 hd lab 5 i = if i = 0 then α 5 0 + n0 + 2 else α 5 i := fun i => rfl
  have e4 : ∀ i, st s (nwA α (st s α 0 + α 5 0) n0 hd lab) i = st s α i := fun i => rfl
  by_cases q : aG s a = 0
  · unfold inU
    rw [q, e4, e5, if_pos rfl]
    omega
  · constructor
    · intro hu
      unfold inU at hu ⊢
      rw [e4, e5, if_neg q] at hu
      exact Or.inl hu
    · rintro (hu | hu)
      · unfold inU at hu ⊢
        rw [e4, e5, if_neg q]
        exact hu
      · exact absurd (nw_fresh hn hfit hu.1 hu.2).1 q
theorem nw_z (hn : Gn s b 0 α) (hfit : α 5 0 + n0 + 2 ≤ sz s 0) {a : Nat} (hu : inU s α a) : zA z (st s α 0 + α 5 0) (n0 + 2) a = z a := by
  have hq : ¬ (st s α 0 + α 5 0 ≤ a ∧ a < st s α 0 + α 5 0 + (n0 + 2)) := fun q => (nw_fresh hn hfit q.1 q.2).2 hu
  unfold zA
  rw [if_neg (by omega), if_neg (by omega)]
theorem nw_w (hn : Gn s b 0 α) (hfit : α 5 0 + n0 + 2 ≤ sz s 0) {a : Nat} (hu : inU s α a) : nwA α (st s α 0 + α 5 0) n0 hd lab 1 a = α 1 a := by
  have hq : ¬ (st s α 0 + α 5 0 ≤ a ∧ a < st s α 0 + α 5 0 + (n0 + 2)) := fun q => (nw_fresh hn hfit q.1 q.2).2 hu
  show (if a = st s α 0 + α 5 0 then hd else if a = st s α 0 + α 5 0 + 1 then lab else if st s α 0 + α 5 0 + 2 ≤ a ∧ a < st s α 0 + α 5 0 + 2 + n0 then 0 else α 1 a) = _
  rw [if_neg (by omega), if_neg (by omega), if_neg (by omega)]
theorem nw_OU (hn : Gn s b 0 α) (hfit : α 5 0 + n0 + 2 ≤ sz s 0) {a : Nat} : OU s (nwA α (st s α 0 + α 5 0) n0 hd lab) (zA z (st s α 0 + α 5 0) (n0 + 2)) a ↔ (OU s α z a ∨ a = st s α 0 + α 5 0) := by
  unfold OU
  rw [nw_inU hn hfit]
  constructor
  · rintro ⟨h1 | h1, h2⟩
    · rw [nw_z hn hfit h1] at h2
      exact Or.inl ⟨h1, h2⟩
    · refine Or.inr ?_
      unfold zA at h2
      by_cases q : a = st s α 0 + α 5 0
      · exact q
      · rw [if_neg q, if_pos (by omega)] at h2
        exact absurd rfl h2
  · rintro (⟨h1, h2⟩ | h1)
    · rw [nw_z hn hfit h1]
      exact ⟨Or.inl h1, h2⟩
    · refine ⟨Or.inr (by omega), ?_⟩
      unfold zA
      rw [if_pos h1]
      omega
theorem nw_FU (hn : Gn s b 0 α) (hfit : α 5 0 + n0 + 2 ≤ sz s 0) {f : Nat} (hv : FU s α z f) : FU s (nwA α (st s α 0 + α 5 0) n0 hd lab) (zA z (st s α 0 + α 5 0) (n0 + 2)) f := by
  obtain ⟨x, h1, h2, h3⟩ := hv
  refine ⟨x, (nw_OU hn hfit).mpr (Or.inl h1), h2, ?_⟩
  rw [nw_z hn hfit h1.1]
  exact h3
theorem nw_Gi (hi' : Gi s b 0 α z 0 0 (fun _ => True)) (h6 : n0 ≤ 6) (hhd : HD hd (n0 + 2)) (hfit : α 5 0 + n0 + 2 ≤ sz s 0) : Gi s b 0 (nwA α (st s α 0 + α 5 0) n0 hd lab) (zA z (st s α 0 + α 5 0) (n0 + 2)) 0 0 (fun _ => True) := by
  obtain ⟨hn, hs, hz, hw, hff, hl, hd', hq, hrr, hk⟩ := hi'
  have hV : ∀ x, VV s 0 α z x → VV s 0 (nwA α (st s α 0 + α 5 0) n0 hd lab) (zA z (st s α 0 + α 5 0) (n0 + 2)) x := fun x h => h.imp_right (fun q => Or.inl ((nw_OU hn hfit).mpr (Or.inl (Ob_0 q))))
  have hO : ∀ x, Ob s 0 α z x → Ob s 0 (nwA α (st s α 0 + α 5 0) n0 hd lab) (zA z (st s α 0 + α 5 0) (n0 + 2)) x := fun x q => Or.inl ((nw_OU hn hfit).mpr (Or.inl (Ob_0 q)))
  have hE : ∀ x y, EE s 0 α z x y → EE s 0 (nwA α (st s α 0 + α 5 0) n0 hd lab) (zA z (st s α 0 + α 5 0) (n0 + 2)) x y := fun x y h => ⟨h.1, fun q => absurd q (no_OF rfl), fun q => absurd q (no_OF rfl)⟩
  have e5 : ∀ i, nwA α (st s α 0 + α 5 0) n0 hd lab 5 i = if i = 0 then α 5 0 + n0 + 2 else α 5 i := fun i => rfl
  have e1 : ∀ i, nwA α (st s α 0 + α 5 0) n0 hd lab 1 i = if i = st s α 0 + α 5 0 then hd else if i = st s α 0 + α 5 0 + 1 then lab else if st s α 0 + α 5 0 + 2 ≤ i ∧ i < st s α 0 + α 5 0 + 2 + n0 then 0 else α 1 i := fun i => rfl
  refine ⟨⟨hn.1, fun g hg => ?_, fun g hg => by omega⟩, fun g hg => by omega, ⟨fun g hg => ?_, fun g hg => by omega⟩, fun o ho => ?_, fun o ho => absurd ho (no_OF rfl), ?_, ?_, ⟨hq.1, fun i hi => nw_FU hn hfit (hq.2 i hi)⟩, fun r hr i hi => ⟨nw_FU hn hfit (hrr r hr i hi).1, (hrr r hr i hi).2⟩, fun f _ hf => ?_⟩
  · have h := hn.2.1 g hg
    rw [e5, if_neg (show ¬ g < 0 by omega)]
    rw [if_neg (by omega)] at h
    refine ⟨h.1, ?_, ?_⟩
    · by_cases e : g = 0
      · rw [if_pos e, e]
        omega
      · rw [if_neg e]
        exact h.2.1
    · show α 22 g ≤ _
      by_cases e : g = 0
      · rw [if_pos e]
        rw [e] at h ⊢
        omega
      · rw [if_neg e]
        exact h.2.2
  · show PZ _ (st s α g) (st s α g + nwA α (st s α 0 + α 5 0) n0 hd lab 5 g)
    rw [e5]
    have e := fun a (q1 : st s α g ≤ a) q2 => nw_z (z := z) hn hfit (U_of hn hg q1 q2)
    by_cases e2 : g = 0
    · subst e2
      rw [if_pos rfl, show st s α 0 + (α 5 0 + n0 + 2) = st s α 0 + α 5 0 + (n0 + 2) by omega]
      refine PZ_more (hz.1 0 hg) (by omega) e (by omega) (by omega) ?_ ?_
      · unfold zA
        rw [if_pos rfl]
      · intro i q1 q2
        unfold zA
        rw [if_neg (by omega), if_pos ⟨q1, q2⟩]
    · rw [if_neg e2]
      exact PZ_cong (hz.1 g hg) e
  · rcases (nw_OU hn hfit).mp (Ob_0 ho) with q | q
    · rw [nw_w hn hfit q.1, nw_z hn hfit q.1]
      refine ⟨(hw o (Or.inl q)).1, fun f h1 h2 => ?_⟩
      have q2 := (OU_in (i := f - o) hn hz q (by omega)).2
      rw [show o + (f - o) = f by omega] at q2
      rw [nw_w hn hfit q2]
      exact hV _ ((hw o (Or.inl q)).2 f h1 h2)
    · subst q
      have ez : zA z (st s α 0 + α 5 0) (n0 + 2) (st s α 0 + α 5 0) = n0 + 2 := if_pos rfl
      rw [ez, e1, if_pos rfl]
      refine ⟨hhd, fun f h1 h2 => Or.inl ?_⟩
      rw [e1, if_neg (by omega), if_neg (by omega), if_pos (by omega)]
  · obtain ⟨l1, l0, l2, l3, l4, l5, l6⟩ := hl
    exact ⟨fun i hi => hV _ (l1 i hi), l0, fun i hi => hV _ (l2 i hi), fun i hi => hV _ (l3 i hi), l4, fun i hi ha => hO _ (l5 i hi ha), fun i hi => hO _ (l6 i hi)⟩
  · obtain ⟨d1, d2, d3⟩ := hd'
    exact ⟨fun i j hij hj ai aj => hE _ _ (d1 i j hij hj ai aj), fun i j hij hj => hE _ _ (d2 i j hij hj), fun i j hi hj ai => hE _ _ (d3 i j hi hj ai)⟩
  · have hn2 := hf
    obtain ⟨o, h1, h2, h3⟩ := hf
    rcases (nw_OU hn hfit).mp h1 with q | q
    · rw [nw_z hn hfit q.1] at h3
      have hfo : FU s α z f := ⟨o, q, h2, h3⟩
      have hfu := (FU_in hn hz hfo).1
      refine ⟨((nw_inU hn hfit).mpr (Or.inl hfu)).2, ?_⟩
      unfold DN
      rw [nw_w hn hfit hfu]
      rcases (hk f trivial hfo).2 with q2 | q2
      · exact Or.inl q2
      · exact Or.inr ⟨(nw_OU hn hfit).mpr (Or.inl q2.1), q2.2⟩
    · subst q
      have ez : zA z (st s α 0 + α 5 0) (n0 + 2) (st s α 0 + α 5 0) = n0 + 2 := if_pos rfl
      rw [ez] at h3
      refine ⟨((nw_inU hn hfit).mpr (Or.inr ⟨by omega, by omega⟩)).2, Or.inl ?_⟩
      rw [e1, if_neg (by omega), if_neg (by omega), if_pos (by omega)]
theorem nw_RS (hn : Gn s b 0 α) (hfit : α 5 0 + n0 + 2 ≤ sz s 0) (hr : RS s 0 α z S) : RS s 0 (nwA α (st s α 0 + α 5 0) n0 hd lab) (zA z (st s α 0 + α 5 0) (n0 + 2)) (nwS S (st s α 0 + α 5 0) n0 hd lab (α 5 0 + n0 + 2)) := by
  obtain ⟨rg, rl, rr, rw', rc, rm⟩ := hr
  have row : ∀ k, k ≠ 26 → k ≠ 3 → nwS S (st s α 0 + α 5 0) n0 hd lab (α 5 0 + n0 + 2) k = S k := fun k h1 h2 => by
    funext i
    unfold nwS
    rw [if_neg h1, if_neg (fun q => h2 q.1)]
  have r3 : ∀ k, k < 3 → ∀ i, nwS S (st s α 0 + α 5 0) n0 hd lab (α 5 0 + n0 + 2) (3 + k) i = if k = 0 ∧ i = 5 then nI (α 5 0 + n0 + 2) else S (3 + k) i := fun k hk i => by
    unfold nwS
    rw [if_neg (by omega)]
    have e : (3 + k = 3 ∧ i = 5) ↔ (k = 0 ∧ i = 5) := by omega
    simp only [e]
  have e5 : ∀ i, nwA α (st s α 0 + α 5 0) n0 hd lab 5 i = if i = 0 then α 5 0 + n0 + 2 else α 5 i := fun i => rfl
  refine ⟨?_, ?_, ?_, ?_, ?_, ?_⟩
  · intro k hk
    obtain ⟨q0, q1, q2, q3, q4, q5, q6, q7, q8, q9⟩ := rg k hk
    rw [r3 k hk, r3 k hk, r3 k hk, r3 k hk, r3 k hk, r3 k hk, r3 k hk, r3 k hk, r3 k hk, r3 k hk, if_neg (by omega), if_neg (by omega), if_neg (by omega), if_neg (by omega), if_neg (by omega), e5]
    rw [if_neg (show ¬ (k = 0 ∧ 6 = 5) by omega), if_neg (show ¬ (k = 0 ∧ 7 = 5) by omega), if_neg (show ¬ (k = 0 ∧ 8 = 5) by omega), if_neg (show ¬ (k = 0 ∧ 9 = 5) by omega)]
    refine ⟨q0, q1, q2, q3, q4, ?_, q6, q7, q8, q9⟩
    by_cases e : k = 0
    · rw [if_pos ⟨e, rfl⟩, if_pos e]
    · rw [if_neg (fun q => e q.1), if_neg e]
      exact q5
  · unfold RLs at rl ⊢
    rw [row 6 (by omega) (by omega), row 7 (by omega) (by omega), row 8 (by omega) (by omega), row 9 (by omega) (by omega), row 10 (by omega) (by omega), row 11 (by omega) (by omega), row 16 (by omega) (by omega), row 17 (by omega) (by omega), row 18 (by omega) (by omega), row 19 (by omega) (by omega), row 20 (by omega) (by omega), row 21 (by omega) (by omega)]
    exact rl
  · intro k hr
    have := rrow_in (S 1 8) hr
    rw [row 1 (by omega) (by omega), row _ (by omega) (by omega), row _ (by omega) (by omega)]
    exact rr k hr
  · constructor
    · intro x hx
      exact absurd hx (no_OF rfl)
    · intro x hx _
      have e26 : nwS S (st s α 0 + α 5 0) n0 hd lab (α 5 0 + n0 + 2) 26 x = if x = st s α 0 + α 5 0 then nI hd else if x = st s α 0 + α 5 0 + 1 then nI lab else if st s α 0 + α 5 0 + 2 ≤ x ∧ x < st s α 0 + α 5 0 + 2 + n0 then nI 0 else S 26 x := rfl
      have e1 : nwA α (st s α 0 + α 5 0) n0 hd lab 1 x = if x = st s α 0 + α 5 0 then hd else if x = st s α 0 + α 5 0 + 1 then lab else if st s α 0 + α 5 0 + 2 ≤ x ∧ x < st s α 0 + α 5 0 + 2 + n0 then 0 else α 1 x := rfl
      rw [e26, e1]
      by_cases h1 : x = st s α 0 + α 5 0
      · rw [if_pos h1, if_pos h1]
      · rw [if_neg h1, if_neg h1]
        by_cases h2 : x = st s α 0 + α 5 0 + 1
        · rw [if_pos h2, if_pos h2]
        · rw [if_neg h2, if_neg h2]
          by_cases h3 : st s α 0 + α 5 0 + 2 ≤ x ∧ x < st s α 0 + α 5 0 + 2 + n0
          · rw [if_pos h3, if_pos h3]
          · rw [if_neg h3, if_neg h3]
            rcases hx with q | q
            · rcases (nw_inU hn hfit).mp q with q2 | q2
              · exact rw'.2 x (Or.inl q2) (fun q3 => no_OF rfl q3.1)
              · omega
            · have := q.1
              omega
  · unfold RC at rc ⊢
    rw [row 1 (by omega) (by omega)]
    exact rc
  · unfold RM at rm ⊢
    rw [row 2 (by omega) (by omega), row 27 (by omega) (by omega), row 28 (by omega) (by omega)]
    exact rm
end PNW
