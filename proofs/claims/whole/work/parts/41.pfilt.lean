/-! THE PURE PART: both filter -/
section PJF
variable {s b : Nat} {α : Nat → Nat → Nat} {z : Nat → Nat} {S : Nat → Nat → Int32} {n : Nat → Nat}
theorem no_OF {c : Nat} (hc : c = 0) {x : Nat} : ¬ OF s c α z x := fun h => by
  have := h.1.1
  omega
theorem Ob_0 {x : Nat} (h : Ob s 0 α z x) : OU s α z x := h.elim (fun q => q) (fun q => absurd q (no_OF rfl))
theorem VV_0 {x : Nat} (h : VV s 0 α z x) : x = 0 ∨ OU s α z x := h.imp_right Ob_0
theorem FU_V {c f : Nat} (hw : Gw s c α z) (h : FU s α z f) : VV s c α z (α 1 f) := by
  obtain ⟨o, h1, h2, h3⟩ := h
  exact (hw o (Or.inl h1)).2 f h2 h3
/-- what filtering leaves as it was -/
def FRF (α : Nat → Nat → Nat) (S : Nat → Nat → Int32) (α' : Nat → Nat → Nat) (S' : Nat → Nat → Int32) : Prop :=
  (∀ k, k ≠ 0 → k ≠ 12 → k ≠ 13 → α' k = α k) ∧ (∀ i, i ≠ 16 → α' 0 i = α 0 i) ∧ (∀ k, k < 11 → S' k = S k)
theorem FRF_of {α' : Nat → Nat → Nat} {S' : Nat → Nat → Int32} (h : FRR α S α' S') : FRF α S α' S' := ⟨fun k _ h1 h2 => h.1 k h1 h2, fun i _ => by rw [h.1 0 (by omega) (by omega)], fun k hk => h.2.1 k (Or.inl (by omega))⟩
theorem FRF_tr {α' α2 : Nat → Nat → Nat} {S' S2 : Nat → Nat → Int32} (h : FRF α S α' S') (h' : FRF α' S' α2 S2) : FRF α S α2 S2 := ⟨fun k h0 h1 h2 => (h'.1 k h0 h1 h2).trans (h.1 k h0 h1 h2), fun i hi => (h'.2.1 i hi).trans (h.2.1 i hi), fun k hk => (h'.2.2 k hk).trans (h.2.2 k hk)⟩
theorem J_filt_end {lo hi : Nat} {K : Nat → Prop} (hi' : Gi s b 0 α z lo hi K) (hr : RS s 0 α z S) (hd : ∀ i, i < α 0 16 → DNr s α z (α 11 i)) : Gi s b 0 (upN α 0 16 0) z lo hi K ∧ RS s 0 (upN α 0 16 0) z (up2 S 11 1 0) ∧ FRF α S (upN α 0 16 0) (up2 S 11 1 0) := by
  obtain ⟨hn, hs, hz, hw, hff, hl, hd', hq, hrr, hk⟩ := hi'
  refine ⟨⟨hn, hs, hz, hw, hff, hl, hd', ⟨Nat.zero_le _, fun i hi => absurd hi (Nat.not_lt_zero i)⟩, hrr, fun f h1 h2 => ⟨(hk f h1 h2).1, ?_⟩⟩, ?_, ?_⟩
  · rcases (hk f h1 h2).2 with q | ⟨q1, q2⟩
    · exact Or.inl q
    · refine Or.inr ⟨q1, fun q3 => Or.inl ?_⟩
      rcases q2 q3 with q4 | ⟨i, h3, h4⟩
      · exact q4
      · have h5 := hd i h3
        rw [h4] at h5
        rcases h5 with q5 | q5
        · have := (U_lt hn q1.1).1
          omega
        · exact q5.2 q3
  · obtain ⟨rg, rl, rr, rw', rc, rm⟩ := hr
    have row : ∀ k, k ≠ 11 → up2 S 11 1 0 k = S k := fun k h1 => up2_row _ h1
    refine ⟨?_, ?_, ?_, ?_, ?_, ?_⟩
    · intro g hg
      rw [row (3 + g) (by omega)]
      exact rg g hg
    · unfold RLs at rl ⊢
      rw [row 6 (by omega), row 7 (by omega), row 8 (by omega), row 9 (by omega), row 10 (by omega), row 16 (by omega), row 17 (by omega), row 18 (by omega), row 19 (by omega), row 20 (by omega), row 21 (by omega), up2_hit]
      exact ⟨rl.1, rl.2.1, rl.2.2.1, rl.2.2.2.1, rl.2.2.2.2.1, rfl, fun i hi => absurd hi (Nat.not_lt_zero i)⟩
    · intro r hr
      have := rrow_in (S 1 8) hr
      rw [row 1 (by omega), row _ (by omega), row _ (by omega)]
      exact rr r hr
    · unfold RW at rw' ⊢
      rw [row 26 (by omega)]
      exact rw'
    · unfold RC at rc ⊢
      rw [row 1 (by omega)]
      exact rc
    · unfold RM at rm ⊢
      rw [row 2 (by omega), row 27 (by omega), row 28 (by omega)]
      exact rm
  · exact ⟨fun k h0 _ _ => upN_row _ h0, fun i hi => upN_ne _ (Or.inr hi), fun k hk => up2_row _ (by omega)⟩
theorem J_filt_go {lo hi : Nat} {K : Nat → Prop} (hN : LN n s b) : ∀ m k (α : Nat → Nat → Nat) (S : Nat → Nat → Int32), k + m = α 0 16 → Gi s b 0 α z lo hi K → RS s 0 α z S → (∀ i, i < k → DNr s α z (α 11 i)) → ∃ α' S', Gi s b 0 α' z lo hi K ∧ α' 0 16 = 0 ∧ RS s 0 α' z S' ∧ (∀ Q : Unit → (Nat → Nat → Int32) → Prop, Q () (nR α') → wX5_filter_b2 (m + 1) (nI k) (nR α) Q) ∧ (∀ Q : Unit → (Nat → Nat → Int32) → Prop, Q () S' → wX1_filter_b2 n (m + 1) (nI k) S Q) ∧ FRF α S α' S'
  | 0, k, α, S, e, hi', hr, hd => by
    have hq := hi'.2.2.2.2.2.2.2.1
    have hb := hi'.1.1
    obtain ⟨h1, h2, h3⟩ := J_filt_end hi' hr (fun i hi => hd i (by omega))
    refine ⟨_, _, h1, upN_hit _ _ _ _, h2, fun Q hQ => ?_, fun Q hQ => ?_, h3⟩
    · rw [wX5_filter_b2, nR_at, nI_leI (by have := hq.1; omega) (by have := hq.1; omega)]
      refine ⟨fun _ => ?_, fun q => absurd (show α 0 16 ≤ k by omega) q⟩
      rintro S3 rfl
      rw [← nI_0, up2_nR]
      exact hQ
    · rw [wX1_filter_b2, hr.2.1.2.2.2.2.2.1, nI_leI (by have := hq.1; omega) (by have := hq.1; omega)]
      refine ⟨fun _ => ?_, fun q => absurd (show α 0 16 ≤ k by omega) q⟩
      rintro S3 rfl
      exact hQ
  | m + 1, k, α, S, e, hi', hr, hd => by
    have hq := hi'.2.2.2.2.2.2.2.1
    have hb := hi'.1.1
    have hf := hq.2 k (by omega)
    have hfl := U_lt hi'.1 (FU_in hi'.1 hi'.2.2.1 hf).1
    obtain ⟨α1, S1, g1, g2, g3, g4, g5, g6, g7, g8⟩ := J_rem hi' hr hN hf (VV_0 (FU_V hi'.2.2.2.1 hf))
    have e0 : α1 0 = α 0 := g5.1 0 (by omega) (by omega)
    have e11 : α1 11 = α 11 := g5.1 11 (by omega) (by omega)
    obtain ⟨α2, S2, i1, i2, i3, i4, i5, i6⟩ := J_filt_go hN m (k + 1) α1 S1 (by rw [e0]; omega) g1 g2 (fun i hi => by
      rw [e11]
      by_cases e2 : i = k
      · rw [e2]; exact g8
      · exact g7 _ (hd i (by omega)))
    refine ⟨α2, S2, i1, i2, i3, fun Q hQ => ?_, fun Q hQ => ?_, FRF_tr (FRF_of g5) i6⟩
    · rw [wX5_filter_b2, nR_at, nI_leI (by have := hq.1; omega) (by have := hq.1; omega), nI_clamp (by have := hq.1; omega)]
      refine ⟨fun q => absurd q (by omega), fun _ => ⟨(vp_nI (by have := hq.1; omega)).mpr (by have := hq.1; omega), ?_⟩⟩
      refine g3 _ ?_
      rintro x7 rfl
      rw [nI_1]
      exact i4 Q hQ
    · rw [wX1_filter_b2, hr.2.1.2.2.2.2.2.1, nI_leI (by have := hq.1; omega) (by have := hq.1; omega), nI_clamp (by have := hq.1; omega), hr.2.1.2.2.2.2.2.2 k (by omega)]
      have h21 : n 21 = b := hN.2.2.2.2.2.1
      refine ⟨fun q => absurd q (by omega), fun _ => ⟨(vp_nI (by have := hq.1; omega)).mpr (by have := hq.1; omega), ?_⟩⟩
      refine g4 _ ?_
      rintro x7 rfl
      rw [nI_1]
      exact i5 Q hQ
theorem J_filt {lo hi : Nat} {K : Nat → Prop} (hN : LN n s b) (hi' : Gi s b 0 α z lo hi K) (hr : RS s 0 α z S) : ∃ α' S', Gi s b 0 α' z lo hi K ∧ α' 0 16 = 0 ∧ RS s 0 α' z S' ∧ (∀ Q : Unit → (Nat → Nat → Int32) → Prop, Q () (nR α') → wX5_filter (nR α) Q) ∧ (∀ Q : Unit → (Nat → Nat → Int32) → Prop, Q () S' → wX1_filter n S Q) ∧ FRF α S α' S' := by
  obtain ⟨α2, S2, i1, i2, i3, i4, i5, i6⟩ := J_filt_go hN (α 0 16) 0 α S (by omega) hi' hr (fun i hi => by omega)
  exact ⟨α2, S2, i1, i2, i3, fun Q hQ => ⟨_, i4 Q hQ⟩, fun Q hQ => ⟨_, i5 Q hQ⟩, i6⟩
end PJF
