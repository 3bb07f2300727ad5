/-! THE PURE PART: the fields of the old rows are brought -/
def KR (s c : Nat) (β : Nat → Nat → Nat) (h22 : Nat → Nat) (r0 k0 x : Nat) : Prop := x < hb s (aG s x) (β 4 (aG s x)) + h22 (aG s x) ∧ (c ≤ aG s x → ∀ r k, r < 2 → k < β 14 r → (r0 < r ∨ r0 = r ∧ k0 ≤ k) → β 15 (1000 * r + k) ≠ x)
section PRO
variable {s b c lo hi ns nr nq : Nat} {n : Nat → Nat} {β : Nat → Nat → Nat} {h22 : Nat → Nat}
theorem bd_of {α : Nat → Nat → Nat} {z : Nat → Nat} {S : Nat → Nat → Int32} (hn : Gn s b c α) (hx : EX s c α z S β h22) {x : Nat} (h : x < hb s (aG s x) (β 4 (aG s x)) + h22 (aG s x)) : x < st s α (aG s x) + α 5 (aG s x) := by
  have h1 := (hn.2.1 _ (aG_lt s x)).2.2
  have h2 := hx.2.2.1
  unfold st
  rw [h2.1]
  rw [h2.2.2.2] at h1
  omega
theorem L_rows {g0 : Nat} (hg0 : g0 + 1 = c) (hN : LN n s b) {r : Nat} (hr2 : r < 2) : ∀ m k (α : Nat → Nat → Nat) (z : Nat → Nat) (S : Nat → Nat → Int32), k + m = α 14 r → IG s b c α z S lo hi (KR s c β h22 r k) β h22 nr ns nq → ∃ α' z' S', IG s b c α' z' S' lo hi (KR s c β h22 r (β 14 r)) β h22 nr ns nq ∧ S' 1 9 = S 1 9 ∧ (∀ (Q : Unit → (Nat → Nat → Int32) → Prop) (K2 : Int32 → (Nat → Nat → Int32) → Prop), K2 (nI (r + 1)) (nR α') → wX5_bringRows_b9 (nI g0) K2 (m + 1) (nI k) (nI r) (nR α) Q) ∧ (∀ Q : Unit → (Nat → Nat → Int32) → Prop, Q () S' → wX1_bringRemembered_b2 n (rrow (S 1 9) r) (nI g0) (m + 1) (nI k) S Q) ∧ α' 0 14 = α 0 14
  | 0, k, α, z, S, e, hg => by
    have hx := hg.2.2.2.1
    have hrb := hx.2.1 r hr2
    have hs1 := hg.1.1.1.2.1
    have e14 := hx.2.2.1.2.1
    have hsz : α 14 r ≤ 768 := by
      have := hrb.1
      split at this <;> omega
    refine ⟨α, z, S, ?_, rfl, fun Q K2 hQ => ?_, fun Q hQ => ?_, rfl⟩
    · have e2 : k = β 14 r := by rw [← e14]; omega
      rw [e2] at hg
      exact hg
    · rw [wX5_bringRows_b9, nI_clamp (by omega), nR_at, nI_leI (by omega) (by omega)]
      refine ⟨(vp_nI (by omega)).mpr hr2, fun _ => ?_, fun q => absurd (show α 14 r ≤ k by omega) q⟩
      rintro x5 rfl
      rw [nI_1]
      exact hQ
    · rw [wX1_bringRemembered_b2, hrb.2.1, nI_leI (by omega) (by omega)]
      exact ⟨fun _ => hQ, fun q => absurd (show α 14 r ≤ k by omega) q⟩
  | m + 1, k, α, z, S, e, hg => by
    have hg' := hg
    obtain ⟨gi, gk, gr, gx, gp⟩ := hg
    have hrb := gx.2.1 r hr2
    have hs1 := gi.1.1.2.1
    have hc3 := gi.1.1.2.2.1
    have e14 := gx.2.2.1.2.1
    have e15 := gx.2.2.1.2.2.1
    have hsz : α 14 r ≤ 768 := by
      have := hrb.1
      split at this <;> omega
    have hen := hrb.2.2 k (by omega)
    have hga := aG_lt s (α 15 (1000 * r + k))
    have hrw := rrow_in (S 1 9) hr2
    have hn26 : n 26 = 1 + 14 * s := hN.2.2.2.2.2.2.2.2.2.2.1
    have hnR : n (rrow (S 1 9) r + 10) = if r = 0 then 6 * s else 4 * s := by
      obtain ⟨-, -, -, -, -, -, l22, l23, l24, l25, -⟩ := hN
      rcases hrw with q | q <;> rcases (show r = 0 ∨ r = 1 by omega) with q2 | q2 <;> rw [q.1, q2]
      · rw [l22]; rfl
      · rw [l23]; rfl
      · rw [l24]; rfl
      · rw [l25]; rfl
    have mod : ∀ (Q : Unit → (Nat → Nat → Int32) → Prop) (K2 : Int32 → (Nat → Nat → Int32) → Prop), (aG s (α 15 (1000 * r + k)) ≤ g0 → wX5_bringRows_b9 (nI g0) K2 (m + 1) (nI (k + 1)) (nI r) (nR α) Q) → (¬ aG s (α 15 (1000 * r + k)) ≤ g0 → wX5_bring (nI (α 1 (α 15 (1000 * r + k)))) (nR α) (fun r12 S13 => vp_in (nI (α 15 (1000 * r + k))) 1793 ∧ ∀ S14, S14 = up2 S13 1 (α 15 (1000 * r + k)) r12 → wX5_rememberIf (nI (α 15 (1000 * r + k))) S14 (fun _ S17 => wX5_bringRows_b9 (nI g0) K2 (m + 1) (nI (k + 1)) (nI r) S17 Q))) → wX5_bringRows_b9 (nI g0) K2 (m + 1 + 1) (nI k) (nI r) (nR α) Q := by
      intro Q K2 h1 h2
      rw [wX5_bringRows_b9, nI_clamp (show r < 2 ^ 31 by omega), nR_at, nI_leI (by omega) (by omega), show (1000 : Int32) = nI 1000 from rfl, pk_mul, nI_add, nI_clamp (by omega), nR_at]
      refine ⟨(vp_nI (by omega)).mpr hr2, fun q => absurd q (by omega), fun _ => ⟨(vp_nI (by omega)).mpr (by omega), ?_⟩⟩
      rintro x7 rfl
      refine M_gen' gi.1 (by omega) ?_
      rw [nI_leI (by omega) (by omega), nI_clamp (show α 15 (1000 * r + k) < 2 ^ 31 by omega)]
      unfold wX5_bringRows_b67
      refine ⟨fun q => ?_, fun q => ⟨(vp_nI (by omega)).mpr (by omega), ?_⟩⟩
      · rintro x18 rfl
        rw [nI_1]
        exact h1 q
      · have := h2 q
        simp only [nI_1, forall_eq] at this ⊢
        exact this
    have cla : ∀ Q : Unit → (Nat → Nat → Int32) → Prop, (aG s (α 15 (1000 * r + k)) ≤ g0 → wX1_bringRemembered_b2 n (rrow (S 1 9) r) (nI g0) (m + 1) (nI (k + 1)) S Q) → (¬ aG s (α 15 (1000 * r + k)) ≤ g0 → α 15 (1000 * r + k) < 1 + 14 * s ∧ wX1_brought n (S 26 (α 15 (1000 * r + k))) S (fun r9 S10 => vp_in (nI (α 15 (1000 * r + k))) (n 26) ∧ ∀ S11, S11 = up2 S10 26 (α 15 (1000 * r + k)) r9 → wX1_remember n (nI (α 15 (1000 * r + k))) S11 (fun _ S14 => wX1_bringRemembered_b2 n (rrow (S 1 9) r) (nI g0) (m + 1) (nI (k + 1)) S14 Q))) → wX1_bringRemembered_b2 n (rrow (S 1 9) r) (nI g0) (m + 1 + 1) (nI k) S Q := by
      intro Q h1 h2
      rw [wX1_bringRemembered_b2, hrb.2.1, nI_leI (by omega) (by omega), nI_clamp (show k < 2 ^ 31 by omega), hen.1]
      refine ⟨fun q => absurd q (by omega), fun _ => ⟨(vp_nI (by omega)).mpr (by have := hrb.1; omega), ?_⟩⟩
      rintro x3 rfl
      refine C_home hs1 (by omega) gr.1 ?_
      rw [(gr.1 _ hga).1, nI_leI (by omega) (by omega), nI_clamp (show α 15 (1000 * r + k) < 2 ^ 31 by omega)]
      unfold wX1_bringRemembered_b55
      refine ⟨fun q => ?_, fun q => ⟨(vp_nI (by omega)).mpr (by have := (h2 q).1; omega), ?_⟩⟩
      · rintro x15 rfl
        rw [nI_1]
        exact h1 q
      · have := (h2 q).2
        simp only [nI_1, forall_eq] at this ⊢
        exact this
    by_cases hold : aG s (α 15 (1000 * r + k)) ≤ g0
    · have gi2 := Gi_K (K' := KR s c β h22 r (k + 1)) gi (fun x h _ => ⟨h.1, fun hcx r' k' h1 h2 h3 => by
        by_cases e2 : r' = r ∧ k' = k
        · rw [e2.1, e2.2, ← e15]
          intro e3
          rw [e3] at hold
          omega
        · exact h.2 hcx r' k' h1 h2 (by omega)⟩)
      obtain ⟨α2, z2, S2, i1, i2, i3, i4, i5⟩ := L_rows hg0 hN hr2 m (k + 1) α z S (by omega) ⟨gi2, fun x h => bd_of gi.1 gx h.1, gr, gx, gp⟩
      exact ⟨α2, z2, S2, i1, i2, fun Q K2 hQ => mod Q K2 (fun _ => i3 Q K2 hQ) (fun q => absurd hold q), fun Q hQ => cla Q (fun _ => i4 Q hQ) (fun q => absurd hold q), i5⟩
    · have hf := hen.2.2 (by omega)
      obtain ⟨α1, z1, S1, a1, a2, a3, a4, a5⟩ := J_field gi gk (by omega) gr hN hf
      have hfl := U_lt gi.1 (FU_in gi.1 gi.2.2.1 hf).1
      have w26 : S 26 (α 15 (1000 * r + k)) = nI (α 1 (α 15 (1000 * r + k))) := gr.2.2.2.1.2 _ (Or.inl (FU_in gi.1 gi.2.2.1 hf).1) (fun q => UF_no gi.1 (FU_in gi.1 gi.2.2.1 hf).1 q.1.1)
      have x1 := FRG_EX gi.1 a5 gx
      have gi2 := Gi_K (K' := KR s c β h22 r (k + 1)) a1 (fun x h _ => by
        by_cases ex : x = α 15 (1000 * r + k)
        · exact Or.inr ex
        · refine Or.inl ⟨h.1, fun hcx r' k' h1 h2 h3 => ?_⟩
          by_cases e2 : r' = r ∧ k' = k
          · rw [e2.1, e2.2, ← e15]
            exact fun e3 => ex e3.symm
          · exact h.2 hcx r' k' h1 h2 (by omega))
      have es : S1 1 9 = S 1 9 := a5.2.2.2.2.2.1.2.2.1
      have ea : α1 14 = α 14 := a5.2.2.2.1 14 (by omega) (by omega) (by omega) (by omega) (by omega) (by omega) (by omega)
      obtain ⟨α2, z2, S2, i1, i2, i3, i4, i5⟩ := L_rows hg0 hN hr2 m (k + 1) α1 z1 S1 (by rw [ea]; omega) ⟨gi2, fun x h => bd_of gi2.1 x1 h.1, a2, x1, FRG_PRG a5 gp⟩
      rw [es] at i2 i4
      refine ⟨α2, z2, S2, i1, i2, fun Q K2 hQ => mod Q K2 (fun q => absurd q hold) (fun _ => ?_), fun Q hQ => cla Q (fun q => absurd q hold) (fun _ => ⟨by omega, ?_⟩), i5.trans (a5.2.2.2.2.1 14 (by omega) (by omega))⟩
      · exact a3 _ (i3 Q K2 hQ)
      · rw [w26]
        exact a4 _ (i4 Q hQ)
theorem J_rows {g0 : Nat} (hg0 : g0 + 1 = c) (hN : LN n s b) {α : Nat → Nat → Nat} {z : Nat → Nat} {S : Nat → Nat → Int32} (hg : IG s b c α z S lo hi (KR s c β h22 0 0) β h22 nr ns nq) : ∃ α' z' S1 S', IG s b c α' z' S' lo hi (fun x => x < hb s (aG s x) (β 4 (aG s x)) + h22 (aG s x)) β h22 nr ns nq ∧ α' 0 14 = α 0 14 ∧ (∀ Q : Unit → (Nat → Nat → Int32) → Prop, Q () (nR α') → wX5_bringRows (nI g0) (nR α) Q) ∧ (∀ Q : Unit → (Nat → Nat → Int32) → Prop, Q () S1 → wX1_bringRemembered n (rrow (S 1 9) 0) (nI g0) S Q) ∧ (∀ Q : Unit → (Nat → Nat → Int32) → Prop, Q () S' → wX1_bringRemembered n (rrow (S1 1 9) 1) (nI g0) S1 Q) := by
  obtain ⟨α1, z1, S1, a1, a2, a3, a4, a5⟩ := L_rows hg0 hN (r := 0) (by omega) (α 14 0) 0 α z S (by omega) hg
  have a1' : IG s b c α1 z1 S1 lo hi (KR s c β h22 1 0) β h22 nr ns nq := by
    obtain ⟨gi, gk, gr, gx, gp⟩ := a1
    have gi2 := Gi_K (K' := KR s c β h22 1 0) gi (fun x h _ => ⟨h.1, fun hcx r' k' h1 h2 h3 => h.2 hcx r' k' h1 h2 (by
      rcases h3 with h3 | h3
      · omega
      · rw [← h3.1] at h2
        omega)⟩)
    exact ⟨gi2, fun x h => bd_of gi.1 gx h.1, gr, gx, gp⟩
  obtain ⟨α2, z2, S2, b1, b2, b3, b4, b5⟩ := L_rows hg0 hN (r := 1) (by omega) (α1 14 1) 0 α1 z1 S1 (by omega) a1'
  refine ⟨α2, z2, S1, S2, ?_, b5.trans a5, fun Q hQ => ?_, fun Q hQ => ⟨_, a4 Q hQ⟩, fun Q hQ => ⟨_, b4 Q hQ⟩⟩
  · obtain ⟨gi, gk, gr, gx, gp⟩ := b1
    have gi2 := Gi_K (K' := fun x => x < hb s (aG s x) (β 4 (aG s x)) + h22 (aG s x)) gi (fun x h _ => ⟨h, fun hcx r' k' h1 h2 h3 => by
      rcases h3 with h3 | h3
      · omega
      · rw [← h3.1] at h2
        omega⟩)
    exact ⟨gi2, fun x h => bd_of gi.1 gx h, gr, gx, gp⟩
  · refine ⟨3, ?_⟩
    rw [wX5_bringRows_b2]
    refine ⟨fun q => absurd q (by decide), fun _ => ⟨_, a3 _ _ ?_⟩⟩
    rw [wX5_bringRows_b2]
    refine ⟨fun q => absurd q (by decide), fun _ => ⟨_, b3 _ _ ?_⟩⟩
    rw [wX5_bringRows_b2]
    exact ⟨fun _ => hQ, fun q => absurd (by decide) q⟩
end PRO
