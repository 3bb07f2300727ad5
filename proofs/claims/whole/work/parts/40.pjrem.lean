/-! THE PURE PART: both remember, joined -/
theorem FRR_refl (α : Nat → Nat → Nat) (S : Nat → Nat → Int32) : FRR α S α S := ⟨fun _ _ _ => rfl, fun _ _ => rfl, fun _ _ => ⟨rfl, rfl⟩⟩
def DNr (s : Nat) (α : Nat → Nat → Nat) (z : Nat → Nat) (f : Nat) : Prop := α 1 f = 0 ∨ (OU s α z (α 1 f) ∧ (aG s (α 1 f) < aG s f → ∃ i, i < α 12 (aG s (α 1 f)) ∧ α 13 (1000 * aG s (α 1 f) + i) = f))
theorem DNr_DN {s : Nat} {α : Nat → Nat → Nat} {z : Nat → Nat} {f : Nat} (h : DNr s α z f) : DN s α z f := h.elim Or.inl (fun q => Or.inr ⟨q.1, fun q2 => Or.inl (q.2 q2)⟩)
section PJR
variable {s b c : Nat} {α : Nat → Nat → Nat} {z : Nat → Nat} {S : Nat → Nat → Int32} {n : Nat → Nat}
theorem rm_12 {r f k : Nat} : rmA α r f 12 k = if k = r then α 12 r + 1 else α 12 k := by
  show (if 12 = 12 ∧ k = r then α 12 r + 1 else upN α 13 (1000 * r + α 12 r) f 12 k) = _
  by_cases e : k = r
  · rw [if_pos ⟨rfl, e⟩, if_pos e]
  · rw [if_neg (fun q => e q.2), if_neg e]
    rfl
theorem rm_13 {r f k i : Nat} (hi : i < 1000) (hc : α 12 r < 1000) : rmA α r f 13 (1000 * k + i) = if k = r ∧ i = α 12 r then f else α 13 (1000 * k + i) := by
  show upN α 13 (1000 * r + α 12 r) f 13 (1000 * k + i) = _
  unfold upN
  by_cases e : k = r ∧ i = α 12 r
  · rw [if_pos e, if_pos ⟨rfl, by rw [e.1, e.2]⟩]
  · rw [if_neg e, if_neg (by omega)]
theorem rm_Gr {r f : Nat} (hn : Gn s b c α) (hz : Gz s c α z) (hg : Gr s α z) (hr : r < 2) (hf : FU s α z f) (hlt : r < aG s f) (hno : ∀ i, i < α 12 r → α 13 (1000 * r + i) ≠ f) : Gr s (rmA α r f) z := by
  have hs1 := hn.1.2.1
  have hc : ∀ k, k < 2 → α 12 k < 1000 := fun k hk => by
    have := row_le hn hz hg hk
    split at this <;> omega
  have hm : α 12 r + 1 < 1000 := by
    have := row_more hn hz hg hr hf hlt hno
    split at this <;> omega
  intro k hk i hi
  rw [rm_12] at hi
  have hck := hc k hk
  have hi1 : i < 1000 := by
    by_cases e : k = r
    · rw [if_pos e] at hi
      omega
    · rw [if_neg e] at hi
      omega
  rw [rm_13 hi1 (hc r hr)]
  by_cases e : k = r ∧ i = α 12 r
  · rw [if_pos e]
    refine ⟨hf, by rw [e.1]; exact hlt, fun j hj => ?_⟩
    rw [rm_13 (by omega) (hc r hr), if_neg (by omega), e.1]
    exact hno j (by omega)
  · rw [if_neg e]
    have hi2 : i < α 12 k := by
      by_cases e1 : k = r
      · rw [if_pos e1] at hi
        have : i ≠ α 12 r := fun q => e ⟨e1, q⟩
        rw [e1]
        omega
      · rw [if_neg e1] at hi
        exact hi
    have h1 := hg k hk i hi2
    refine ⟨h1.1, h1.2.1, fun j hj => ?_⟩
    rw [rm_13 (by omega) (hc r hr), if_neg (fun q => by have q1 := q.1; have q2 := q.2; subst q1; omega)]
    exact h1.2.2 j hj
theorem rm_DN {r f x : Nat} (hc : ∀ k, k < 2 → α 12 k < 1000) (hr : r < 2) (h : DN s α z x) : DN s (rmA α r f) z x := by
  rcases h with h | ⟨h1, h2⟩
  · exact Or.inl h
  · refine Or.inr ⟨h1, fun q => ?_⟩
    rcases h2 q with ⟨i, h3, h4⟩ | h3
    · have hg2 := aG_lt s x
      have q' : aG s (α 1 x) < aG s x := q
      refine Or.inl ⟨i, ?_, ?_⟩
      · show i < rmA α r f 12 (aG s (α 1 x))
        rw [rm_12]
        split
        · rename_i e
          rw [e] at h3
          omega
        · exact h3
      · show rmA α r f 13 (1000 * aG s (α 1 x) + i) = x
        have hcx := hc (aG s (α 1 x)) (by omega)
        rw [rm_13 (by omega) (hc r hr), if_neg (fun q => by have q1 := q.1; have q2 := q.2; rw [q1] at h3; omega)]
        exact h4
    · exact Or.inr h3
theorem rm_DNr {r f x : Nat} (hc : ∀ k, k < 2 → α 12 k < 1000) (hr : r < 2) (h : DNr s α z x) : DNr s (rmA α r f) z x := by
  rcases h with h | ⟨h1, h2⟩
  · exact Or.inl h
  · refine Or.inr ⟨h1, fun q => ?_⟩
    obtain ⟨i, h3, h4⟩ := h2 q
    · have hg2 := aG_lt s x
      have q' : aG s (α 1 x) < aG s x := q
      refine ⟨i, ?_, ?_⟩
      · show i < rmA α r f 12 (aG s (α 1 x))
        rw [rm_12]
        split
        · rename_i e
          rw [e] at h3
          omega
        · exact h3
      · show rmA α r f 13 (1000 * aG s (α 1 x) + i) = x
        have hcx := hc (aG s (α 1 x)) (by omega)
        rw [rm_13 (by omega) (hc r hr), if_neg (fun q => by have q1 := q.1; have q2 := q.2; rw [q1] at h3; omega)]
        exact h4
theorem rm_RS {r f R : Nat} (hr2 : r < 2) (hR : R = rrow (S 1 8) r) (hc : ∀ k, k < 2 → α 12 k < 1000) (hr : RS s c α z S) : RS s c (rmA α r f) z (rmS S R (α 12 r) (nI f)) := by
  obtain ⟨rg, rl, rr, rw', rc, rm⟩ := hr
  have hR2 := rrow_in (S 1 8) hr2
  rw [← hR] at hR2
  have row : ∀ k, k ≠ R → k ≠ R + 10 → rmS S R (α 12 r) (nI f) k = S k := fun k h1 h2 => by
    unfold rmS
    rw [up2_row _ h1, up2_row _ h2]
  refine ⟨?_, ?_, ?_, ?_, ?_, ?_⟩
  · intro g hg
    rw [row (3 + g) (by omega) (by omega)]
    exact rg g hg
  · unfold RLs at rl ⊢
    rw [row 6 (by omega) (by omega), row 7 (by omega) (by omega), row 8 (by omega) (by omega), row 9 (by omega) (by omega), row 10 (by omega) (by omega), row 11 (by omega) (by omega), row 16 (by omega) (by omega), row 17 (by omega) (by omega), row 18 (by omega) (by omega), row 19 (by omega) (by omega), row 20 (by omega) (by omega), row 21 (by omega) (by omega)]
    exact rl
  · intro k hk
    rw [row 1 (by omega) (by omega)]
    have hk2 := rrow_in (S 1 8) hk
    have hrk := rr k hk
    have hck := hc k hk
    by_cases e : k = r
    · subst e
      rw [← hR] at hrk ⊢
      constructor
      · unfold rmS
        rw [up2_hit, rm_12, if_pos rfl]
      · intro i hi
        rw [rm_12, if_pos rfl] at hi
        rw [rm_13 (by omega) hck]
        unfold rmS
        rw [up2_row _ (by omega), up2_get]
        by_cases e2 : i = α 12 k
        · rw [if_pos ⟨rfl, e2⟩, if_pos ⟨rfl, e2⟩]
        · rw [if_neg (fun q => e2 q.2), if_neg (fun q => e2 q.2)]
          exact hrk.2 i (by omega)
    · have e3 : rrow (S 1 8) k ≠ R := by omega
      rw [row _ e3 (by omega), row _ (by omega) (by omega), rm_12, if_neg e]
      refine ⟨hrk.1, fun i hi => ?_⟩
      rw [rm_13 (by omega) (hc r hr2), if_neg (fun q => e q.1)]
      exact hrk.2 i hi
  · unfold RW at rw' ⊢
    rw [row 26 (by omega) (by omega)]
    exact rw'
  · unfold RC at rc ⊢
    rw [row 1 (by omega) (by omega)]
    exact rc
  · unfold RM at rm ⊢
    rw [row 2 (by omega) (by omega), row 27 (by omega) (by omega), row 28 (by omega) (by omega)]
    exact rm
theorem rm_FRR {r f R : Nat} (hr2 : r < 2) (hR : R = rrow (S 1 8) r) (h89 : S 1 9 = 0 ↔ ¬ S 1 8 = 0) : FRR α S (rmA α r f) (rmS S R (α 12 r) (nI f)) := by
  have hR2 := rrow_in (S 1 8) hr2
  rw [← hR] at hR2
  have row : ∀ k, k ≠ R → k ≠ R + 10 → rmS S R (α 12 r) (nI f) k = S k := fun k h1 h2 => by
    unfold rmS
    rw [up2_row _ h1, up2_row _ h2]
  refine ⟨fun k h1 h2 => ?_, fun k hk => row k (by omega) (by omega), fun k hk => ?_⟩
  · unfold rmA
    rw [upN_row _ h1, upN_row _ h2]
  · have hk2 := rrow_in (S 1 9) hk
    have : rrow (S 1 9) k ≠ R := by
      rcases hR2 with q | q <;> rcases hk2 with q2 | q2
      · exact absurd q.2 (h89.mp q2.2)
      · omega
      · omega
      · exact absurd (h89.mpr q.2) q2.2
    exact ⟨row _ this (by omega), row _ (by omega) (by omega)⟩
theorem J_rem {lo hi f : Nat} {K : Nat → Prop} (hi' : Gi s b c α z lo hi K) (hr : RS s c α z S) (hN : LN n s b) (hf : FU s α z f) (hv : α 1 f = 0 ∨ OU s α z (α 1 f)) : ∃ α' S', Gi s b c α' z lo hi K ∧ RS s c α' z S' ∧ (∀ Q : Unit → (Nat → Nat → Int32) → Prop, Q () (nR α') → wX5_rememberIf (nI f) (nR α) Q) ∧ (∀ Q : Unit → (Nat → Nat → Int32) → Prop, Q () S' → wX1_remember n (nI f) S Q) ∧ FRR α S α' S' ∧ (∀ x, DN s α z x → DN s α' z x) ∧ (∀ x, DNr s α z x → DNr s α' z x) ∧ DNr s α' z f := by
  obtain ⟨hn, hs, hz, hw, hff, hl, hd, hq, hrr, hk⟩ := hi'
  have hi2 : Gi s b c α z lo hi K := ⟨hn, hs, hz, hw, hff, hl, hd, hq, hrr, hk⟩
  have hs1 := hn.1.2.1
  have hfU := (FU_in hn hz hf).1
  have hfl := U_lt hn hfU
  have e26 : S 26 f = nI (α 1 f) := hr.2.2.2.1.2 f (Or.inl hfU) (fun q => UF_no hn hfU q.1.1)
  have hn26 : n 26 = 1 + 14 * s := hN.2.2.2.2.2.2.2.2.2.2.1
  have hc : ∀ k, k < 2 → α 12 k < 1000 := fun k hk => by
    have := row_le hn hz hrr hk
    split at this <;> omega
  by_cases h0 : α 1 f = 0
  · refine ⟨α, S, hi2, hr, fun Q hQ => ?_, fun Q hQ => ?_, FRR_refl α S, fun _ h => h, fun _ h => h, Or.inl h0⟩
    · unfold wX5_rememberIf
      rw [nI_clamp (by omega), nR_at, h0]
      exact ⟨(vp_nI (by omega)).mpr (by omega), fun _ => hQ, fun q => absurd rfl q⟩
    · unfold wX1_remember
      rw [nI_clamp (by omega), e26, h0]
      exact ⟨(vp_nI (by omega)).mpr (by omega), fun _ => hQ, fun q => absurd rfl q⟩
  · have hU : OU s α z (α 1 f) := hv.elim (fun q => absurd q h0) (fun q => q)
    have hUl := U_lt hn hU.1
    have hga := aG_lt s (α 1 f)
    have hgf := aG_lt s f
    -- the two programs up to the row
    have mod : ∀ Q : Unit → (Nat → Nat → Int32) → Prop, (¬ aG s (α 1 f) < aG s f → Q () (nR α)) → (aG s (α 1 f) < aG s f → wX5_remember (nI (aG s (α 1 f))) (nI f) (nR α) Q) → wX5_rememberIf (nI f) (nR α) Q := by
      intro Q a1 a2
      unfold wX5_rememberIf
      rw [nI_clamp (by omega), nR_at]
      refine ⟨(vp_nI (by omega)).mpr (by omega), fun q => ?_, fun _ => ?_⟩
      · rw [← nI_0, nI_eq (by omega) (by omega)] at q
        exact absurd q h0
      · refine M_gen' hn (by omega) ?_
        refine M_gen' hn (by omega) ?_
        rw [nI_leI (by omega) (by omega)]
        refine ⟨fun q => a1 (by omega), fun q => ?_⟩
        refine M_gen' hn (by omega) ?_
        exact a2 (by omega)
    have cla : ∀ Q : Unit → (Nat → Nat → Int32) → Prop, (¬ aG s (α 1 f) < aG s f → Q () S) → (aG s (α 1 f) < aG s f → wX3_has n (rrow (S 1 8) (aG s (α 1 f))) (nI f) S (fun r12 S13 => (r12 = false → vp_in (nI (aG s (α 1 f))) 2 ∧ wX3_add n (rrow (S13 1 8) (nI (aG s (α 1 f))).toNatClampNeg) (nI f) S13 (fun _ S17 => Q () S17)) ∧ (r12 = true → Q () S13))) → wX1_remember n (nI f) S Q := by
      intro Q a1 a2
      unfold wX1_remember
      rw [nI_clamp (show f < 2 ^ 31 by omega), e26]
      refine ⟨(vp_nI (by omega)).mpr (by omega), fun q => ?_, fun _ => ?_⟩
      · rw [← nI_0, nI_eq (by omega) (by omega)] at q
        exact absurd q h0
      · refine C_home hs1 (by omega) hr.1 ?_
        rintro x5 rfl
        refine C_home hs1 (by omega) hr.1 ?_
        rw [(hr.1 _ hga).1, (hr.1 _ hgf).1, nI_leI (by omega) (by omega)]
        refine ⟨fun q => a1 (by omega), fun q => ⟨(vp_nI (by omega)).mpr (by omega), ?_⟩⟩
        have := a2 (by omega)
        rw [nI_clamp (show aG s (α 1 f) < 2 ^ 31 by omega)] at this ⊢
        exact this
    by_cases hlt : aG s (α 1 f) < aG s f
    · have hr2 : aG s (α 1 f) < 2 := by omega
      have hcr := hc _ hr2
      have hrow := rrow_in (S 1 8) hr2
      have hrS := hr.2.2.1 _ hr2
      have hbd : ∀ i, i < α 12 (aG s (α 1 f)) → α 13 (1000 * aG s (α 1 f) + i) < 2 ^ 31 := fun i hi => by
        have := U_lt hn (FU_in hn hz (hrr _ hr2 i hi).1).1
        omega
      have hnR : n (rrow (S 1 8) (aG s (α 1 f)) + 10) = if aG s (α 1 f) = 0 then 6 * s else 4 * s := by
        obtain ⟨-, -, -, -, -, -, l22, l23, l24, l25, -⟩ := hN
        rcases hrow with q | q <;> rcases (show aG s (α 1 f) = 0 ∨ aG s (α 1 f) = 1 by omega) with q2 | q2 <;> rw [q.1, q2]
        · rw [l22]; rfl
        · rw [l23]; rfl
        · rw [l24]; rfl
        · rw [l25]; rfl
      have hle := row_le hn hz hrr hr2
      by_cases hex : ∃ i, i < α 12 (aG s (α 1 f)) ∧ α 13 (1000 * aG s (α 1 f) + i) = f
      · refine ⟨α, S, hi2, hr, fun Q hQ => mod Q (fun q => absurd hlt q) (fun _ => ?_), fun Q hQ => cla Q (fun q => absurd hlt q) (fun _ => ?_), FRR_refl α S, fun _ h => h, fun _ h => h, Or.inr ⟨hU, fun _ => hex⟩⟩
        · exact ⟨_, M_rem hr2 hcr (by omega) hbd (fun _ => hQ) (fun q => by obtain ⟨i, h1, h2⟩ := hex; exact absurd h2 (q i h1)) (α 12 (aG s (α 1 f))) 0 (by omega) (fun i hi => by omega)⟩
        · exact ⟨_, C_has hrS.1 hrS.2 hbd (by rw [hnR]; exact hle) hcr (by omega) (fun _ => ⟨fun q => (by simp at q), fun _ => hQ⟩) (fun q => by obtain ⟨i, h1, h2⟩ := hex; exact absurd h2 (q i h1)) (α 12 (aG s (α 1 f))) 0 (by omega) (fun i hi => by omega)⟩
      · have hno : ∀ i, i < α 12 (aG s (α 1 f)) → α 13 (1000 * aG s (α 1 f) + i) ≠ f := fun i h1 h2 => hex ⟨i, h1, h2⟩
        have hmore := row_more hn hz hrr hr2 hf hlt hno
        have hDN : ∀ x, DN s α z x → DN s (rmA α (aG s (α 1 f)) f) z x := fun x h => rm_DN hc hr2 h
        refine ⟨rmA α (aG s (α 1 f)) f, rmS S (rrow (S 1 8) (aG s (α 1 f))) (α 12 (aG s (α 1 f))) (nI f), ⟨hn, hs, hz, hw, hff, hl, hd, hq, rm_Gr hn hz hrr hr2 hf hlt hno, fun x h1 h2 => ⟨(hk x h1 h2).1, hDN x (hk x h1 h2).2⟩⟩, rm_RS hr2 rfl hc hr, fun Q hQ => mod Q (fun q => absurd hlt q) (fun _ => ?_), fun Q hQ => cla Q (fun q => absurd hlt q) (fun _ => ?_), rm_FRR hr2 rfl hr.2.2.2.2.1.2.2.2, hDN, (fun x h => rm_DNr hc hr2 h), Or.inr ⟨hU, fun _ => ⟨α 12 (aG s (α 1 f)), ?_, ?_⟩⟩⟩
        · exact ⟨_, M_rem hr2 hcr (by omega) hbd (fun q => absurd q hex) (fun _ => hQ) (α 12 (aG s (α 1 f))) 0 (by omega) (fun i hi => by omega)⟩
        · refine ⟨_, C_has hrS.1 hrS.2 hbd (by rw [hnR]; exact hle) hcr (by omega) (fun q => absurd q hex) (fun _ => ⟨fun _ => ⟨(vp_nI (by omega)).mpr (by omega), ?_⟩, fun q => (by simp at q)⟩) (α 12 (aG s (α 1 f))) 0 (by omega) (fun i hi => by omega)⟩
          rw [nI_clamp (show aG s (α 1 f) < 2 ^ 31 by omega)]
          refine C_add hrS.1 (by rw [hnR]; omega) (by rw [hnR]; split <;> omega) hQ
        · show α 12 (aG s (α 1 f)) < rmA α (aG s (α 1 f)) f 12 (aG s (α 1 f))
          rw [rm_12, if_pos rfl]
          omega
        · show rmA α (aG s (α 1 f)) f 13 (1000 * aG s (α 1 f) + α 12 (aG s (α 1 f))) = f
          rw [rm_13 hcr hcr, if_pos ⟨rfl, rfl⟩]
    · refine ⟨α, S, hi2, hr, fun Q hQ => mod Q (fun _ => hQ) (fun q => absurd q hlt), fun Q hQ => cla Q (fun _ => hQ) (fun q => absurd q hlt), FRR_refl α S, fun _ h => h, fun _ h => h, Or.inr ⟨hU, fun q => absurd q hlt⟩⟩
end PJR
