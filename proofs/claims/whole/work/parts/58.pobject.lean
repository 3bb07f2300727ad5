/-! THE PURE PART: both make an object -/
def zlA (α : Nat → Nat → Nat) (a k : Nat) : Nat → Nat → Nat := fun r i => if r = 1 ∧ a ≤ i ∧ i < a + k then 0 else α r i
def zlS (S : Nat → Nat → Int32) (a k : Nat) : Nat → Nat → Int32 := fun r i => if r = 26 ∧ a ≤ i ∧ i < a + k then nI 0 else S r i
def off (s : Nat) : Nat → Nat | 0 => 0 | 1 => s | _ => 3 * s
section POB
variable {s b : Nat} {α : Nat → Nat → Nat} {z : Nat → Nat} {S : Nat → Nat → Int32} {n : Nat → Nat}
theorem obj_cap (hn : Gn s b 0 α) (hz : Gz s 0 α z) {m : Nat} (L : Nat → Nat) (h1 : ∀ i, i < m → OU s α z (L i)) (h2 : ∀ i j, i < j → j < m → L i ≠ L j) : m ≤ 7 * s / 2 := by
  have key : ∀ x, OU s α z x → x - st s α (aG s x) + 2 ≤ sz s (aG s x) := fun x hx => by
    have q := OU_pz hz hx
    have h3 := (hn.2.1 _ (aG_lt s x)).2.1
    have h4 := hx.1.1
    rw [if_neg (by omega)] at h3
    omega
  have s0 : sz s 0 = s := rfl
  have s1 : sz s 1 = 2 * s := rfl
  have s2 : sz s 2 = 4 * s := rfl
  have o0 : off s 0 = 0 := rfl
  have o1 : off s 1 = s := rfl
  have o2 : off s 2 = 3 * s := rfl
  refine fb_holes _ m (fun i => (L i - st s α (aG s (L i)) + off s (aG s (L i))) / 2) (fun i hi => ?_) (fun i j hij hj => ?_)
  · have k1 := key _ (h1 i hi)
    show (L i - st s α (aG s (L i)) + off s (aG s (L i))) / 2 < _
    rcases (show aG s (L i) = 0 ∨ aG s (L i) = 1 ∨ aG s (L i) = 2 by have := aG_lt s (L i); omega) with e | e | e <;> rw [e] at k1 ⊢ <;> omega
  · have k1 := key _ (h1 i (by omega))
    have k2 := key _ (h1 j hj)
    have hne := h2 i j hij hj
    show (L i - st s α (aG s (L i)) + off s (aG s (L i))) / 2 ≠ (L j - st s α (aG s (L j)) + off s (aG s (L j))) / 2
    have b1 := (h1 i (by omega)).1.1
    have b2 := (h1 j hj).1.1
    have same : aG s (L i) = aG s (L j) → L i + 2 ≤ L j ∨ L j + 2 ≤ L i := fun _ => by
      have p1 := OU_pz hz (h1 i (by omega))
      have p2 := OU_pz hz (h1 j hj)
      rcases Nat.lt_or_ge (L i) (L j) with q | q
      · refine Or.inl ?_
        rcases Nat.lt_or_ge (L j) (L i + 2) with q2 | q2
        · exact absurd (p1.2.2.2 (L j) q (by omega)) (h1 j hj).2
        · exact q2
      · refine Or.inr ?_
        rcases Nat.lt_or_ge (L i) (L j + 2) with q2 | q2
        · exact absurd (p2.2.2.2 (L i) (by omega) (by omega)) (h1 i (by omega)).2
        · exact q2
    rcases (show aG s (L i) = 0 ∨ aG s (L i) = 1 ∨ aG s (L i) = 2 by have := aG_lt s (L i); omega) with e | e | e <;> rcases (show aG s (L j) = 0 ∨ aG s (L j) = 1 ∨ aG s (L j) = 2 by have := aG_lt s (L j); omega) with e2 | e2 | e2 <;> rw [e] at k1 b1 same ⊢ <;> rw [e2] at k2 b2 same ⊢ <;> first | (have := same rfl; omega) | omega
theorem add9 {v : Nat} (hi' : Gi s b 0 α z 0 0 (fun _ => True)) (hr : RS s 0 α z S) (hv : OU s α z v) (h9 : ∀ i, i < α 0 12 → α 9 i ≠ v) (h10 : ∀ i, i < α 0 14 → α 10 i ≠ v) : α 0 12 + 1 ≤ 7 * s / 2 ∧ Gi s b 0 (upN (upN α 9 (α 0 12) v) 0 12 (α 0 12 + 1)) z 0 0 (fun _ => True) ∧ RS s 0 (upN (upN α 9 (α 0 12) v) 0 12 (α 0 12 + 1)) z (rmS S 9 (α 0 12) (nI v)) := by
  obtain ⟨hn, hs, hz, hw, hff, hl, hd, hq, hrr, hk⟩ := hi'
  obtain ⟨l1, l0, l2, l3, l4, l5, l6⟩ := hl
  obtain ⟨d1, d2, d3⟩ := hd
  obtain ⟨rg, rl, rr, rw', rc, rm⟩ := hr
  have e0 : ∀ i, 0 ≤ i := fun i => Nat.zero_le i
  have hcap : α 0 12 + α 0 14 + 1 ≤ 7 * s / 2 := by
    refine obj_cap hn hz (fun i => if i < α 0 12 then α 9 i else if i < α 0 12 + α 0 14 then α 10 (i - α 0 12) else v) (fun i hi => ?_) (fun i j hij hj => ?_)
    · show OU s α z (if i < α 0 12 then α 9 i else if i < α 0 12 + α 0 14 then α 10 (i - α 0 12) else v)
      split
      · rename_i h
        exact Ob_0 (l5 i h (Or.inr (e0 i)))
      · split
        · exact Ob_0 (l6 _ (by omega))
        · exact hv
    · show (if i < α 0 12 then α 9 i else if i < α 0 12 + α 0 14 then α 10 (i - α 0 12) else v) ≠ (if j < α 0 12 then α 9 j else if j < α 0 12 + α 0 14 then α 10 (j - α 0 12) else v)
      by_cases c1 : i < α 0 12
      · rw [if_pos c1]
        by_cases c2 : j < α 0 12
        · rw [if_pos c2]
          exact (d1 i j hij c2 (Or.inr (e0 i)) (Or.inr (e0 j))).1
        · rw [if_neg c2]
          by_cases c3 : j < α 0 12 + α 0 14
          · rw [if_pos c3]
            exact (d3 i (j - α 0 12) c1 (by omega) (Or.inr (e0 i))).1
          · rw [if_neg c3]
            exact h9 i c1
      · rw [if_neg c1, if_pos (show i < α 0 12 + α 0 14 by omega), if_neg (by omega)]
        by_cases c3 : j < α 0 12 + α 0 14
        · rw [if_pos c3]
          exact (d2 (i - α 0 12) (j - α 0 12) (by omega) (by omega)).1
        · rw [if_neg c3]
          exact h10 _ (by omega)
  have row : ∀ k, k ≠ 9 → k ≠ 19 → rmS S 9 (α 0 12) (nI v) k = S k := fun k h1 h2 => by
    unfold rmS
    rw [up2_row _ h1, up2_row _ h2]
  have at9 : ∀ i, upN (upN α 9 (α 0 12) v) 0 12 (α 0 12 + 1) 9 i = if i = α 0 12 then v else α 9 i := fun i => by
    rw [upN_row _ (by omega), up_at]
  have hE : ∀ x, x ≠ v → EE s 0 α z x v := fun x h => ⟨h, fun q => absurd q (no_OF rfl), fun q => absurd q (no_OF rfl)⟩
  refine ⟨by omega, ⟨hn, hs, hz, hw, hff, ⟨l1, l0, l2, l3, ⟨Nat.le_refl _, Nat.zero_le _, ?_, ?_⟩, fun i hi ha => ?_, l6⟩, ⟨fun i j hij hj ai aj => ?_, d2, fun i j hi hj ha => ?_⟩, hq, hrr, hk⟩, ?_, ?_, ?_, ?_, ?_, ?_⟩
  · show 0 + (α 0 12 + 1 - 0) + α 0 14 ≤ _
    omega
  · show α 0 12 + 1 ≤ _
    omega
  · have hi2 : i < α 0 12 + 1 := hi
    rw [at9]
    split
    · exact Or.inl hv
    · exact l5 i (by omega) ha
  · have hj2 : j < α 0 12 + 1 := hj
    show EE s 0 α z _ _
    rw [at9, at9, if_neg (by omega)]
    by_cases e : j = α 0 12
    · rw [if_pos e]
      exact hE _ (h9 i (by omega))
    · rw [if_neg e]
      exact d1 i j hij (by omega) ai aj
  · have hi2 : i < α 0 12 + 1 := hi
    show EE s 0 α z _ (α 10 j)
    rw [at9]
    by_cases e : i = α 0 12
    · rw [if_pos e]
      exact EE_sym (hE _ (h10 j hj))
    · rw [if_neg e]
      exact d3 i j (by omega) hj ha
  · intro g hg
    rw [row (3 + g) (by omega) (by omega)]
    exact rg g hg
  · unfold RLs at rl ⊢
    rw [row 6 (by omega) (by omega), row 7 (by omega) (by omega), row 8 (by omega) (by omega), row 10 (by omega) (by omega), row 11 (by omega) (by omega), row 16 (by omega) (by omega), row 17 (by omega) (by omega), row 18 (by omega) (by omega), row 20 (by omega) (by omega), row 21 (by omega) (by omega)]
    refine ⟨rl.1, rl.2.1, rl.2.2.1, ⟨?_, fun i hi => ?_⟩, rl.2.2.2.2⟩
    · unfold rmS
      rw [up2_hit]
      rfl
    · have hi2 : i < α 0 12 + 1 := hi
      rw [at9]
      unfold rmS
      rw [up2_row _ (by omega), up2_get]
      by_cases e : i = α 0 12
      · rw [if_pos ⟨rfl, e⟩, if_pos e]
      · rw [if_neg (fun q => e q.2), if_neg e]
        exact rl.2.2.2.1.2 i (by omega)
  · intro k hr
    have := rrow_in (S 1 8) hr
    rw [row 1 (by omega) (by omega), row _ (by omega) (by omega), row _ (by omega) (by omega)]
    exact rr k hr
  · unfold RW at rw' ⊢
    rw [row 26 (by omega) (by omega)]
    exact rw'
  · unfold RC at rc ⊢
    rw [row 1 (by omega) (by omega)]
    exact rc
  · unfold RM at rm ⊢
    rw [row 2 (by omega) (by omega), row 27 (by omega) (by omega), row 28 (by omega) (by omega)]
    exact rm
theorem zl_S {a k : Nat} : upN (zlA α a k) 1 (a + k) 0 = zlA α a (k + 1) := by
  funext j m
  unfold upN zlA
  by_cases e : j = 1 ∧ m = a + k
  · rw [if_pos e, if_pos (by omega)]
  · rw [if_neg e]
    by_cases e2 : j = 1 ∧ a ≤ m ∧ m < a + k
    · rw [if_pos e2, if_pos (by omega)]
    · rw [if_neg e2, if_neg (by omega)]
theorem zl_S' {a k : Nat} : up2 (zlS S a k) 26 (a + k) (nI 0) = zlS S a (k + 1) := by
  funext j m
  rw [up2_get]
  unfold zlS
  by_cases e : j = 26 ∧ m = a + k
  · rw [if_pos e, if_pos (by omega)]
  · rw [if_neg e]
    by_cases e2 : j = 26 ∧ a ≤ m ∧ m < a + k
    · rw [if_pos e2, if_pos (by omega)]
    · rw [if_neg e2, if_neg (by omega)]
theorem M_zl {at' n0 : Nat} {a2 a3 : Int32} (h : at' + 2 + n0 ≤ 1793) {Q : Int32 → (Nat → Nat → Int32) → Prop} (hq : wX5_object_b129 (nI n0) a2 a3 1 (nI n0) (nI at') (nR (zlA α (at' + 2) n0)) Q) : ∀ m k, k + m = n0 → wX5_object_b129 (nI n0) a2 a3 (m + 1) (nI k) (nI at') (nR (zlA α (at' + 2) k)) Q
  | 0, k, e => by
    rw [show k = n0 by omega]
    exact hq
  | m + 1, k, e => by
    rw [wX5_object_b129, nI_leI (by omega) (by omega), show (2 : Int32) = nI 2 from rfl, nI_add, nI_add, nI_clamp (by omega)]
    refine ⟨fun q => absurd q (by omega), fun _ => ⟨(vp_nI (by omega)).mpr (by omega), ?_⟩⟩
    rintro S31 rfl x33 rfl
    rw [nI_1, ← nI_0, up2_nR, zl_S]
    exact M_zl h hq m (k + 1) (by omega)
theorem C_zl {at' n0 : Nat} {a2 a3 : Int32} (h : at' + 2 + n0 ≤ n 26) (h2 : n 26 < 2 ^ 20) {Q : Int32 → (Nat → Nat → Int32) → Prop} (hq : wX1_newObject_b98 n (nI n0) a2 a3 1 (nI n0) (nI at') (zlS S (at' + 2) n0) Q) : ∀ m k, k + m = n0 → wX1_newObject_b98 n (nI n0) a2 a3 (m + 1) (nI k) (nI at') (zlS S (at' + 2) k) Q
  | 0, k, e => by
    rw [show k = n0 by omega]
    exact hq
  | m + 1, k, e => by
    rw [wX1_newObject_b98, nI_leI (by omega) (by omega), show (2 : Int32) = nI 2 from rfl, nI_add, nI_add, nI_clamp (by omega)]
    refine ⟨fun q => absurd q (by omega), fun _ => ⟨(vp_nI (by omega)).mpr (by omega), ?_⟩⟩
    rintro S31 rfl x33 rfl
    rw [nI_1, ← nI_0, zl_S']
    exact C_zl h h2 hq m (k + 1) (by omega)
theorem nw_end {at' n0 hd lab : Nat} : zlA (upN (upN (upN α 5 0 (α 5 0 + n0 + 2)) 1 at' hd) 1 (at' + 1) lab) (at' + 2) n0 = nwA α at' n0 hd lab := by
  funext k i
  unfold zlA nwA
  simp only [upN_get]
  by_cases h1 : k = 1
  · subst h1
    by_cases c1 : i = at'
    · rw [if_neg (by omega)]
      simp [c1]
    · by_cases c2 : i = at' + 1
      · rw [if_neg (by omega)]
        simp [c2]
      · simp [c1, c2]
  · by_cases h5 : k = 5
    · subst h5
      simp
    · simp [h1, h5]
theorem nw_end' {at' n0 hd lab u : Nat} : zlS (up2 (up2 (up2 S (3 + 0) 5 (nI u)) 26 at' (nI hd)) 26 (at' + 1) (nI lab)) (at' + 2) n0 = nwS S at' n0 hd lab u := by
  funext k i
  unfold zlS nwS
  simp only [up2_get]
  by_cases h1 : k = 26
  · subst h1
    by_cases c1 : i = at'
    · rw [if_neg (by omega)]
      simp [c1]
    · by_cases c2 : i = at' + 1
      · rw [if_neg (by omega)]
        simp [c2]
      · simp [c1, c2]
  · simp [h1]
end POB
