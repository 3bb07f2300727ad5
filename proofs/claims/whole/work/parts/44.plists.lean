/-! THE PURE PART: roots, stack and queue are brought -/
section PLI
variable {s b c lo hi ns nr nq : Nat} {K : Nat → Prop} {n : Nat → Nat} {β : Nat → Nat → Nat} {h22 : Nat → Nat}
theorem L_root (a1 : Int32) (hc : 0 < c) (hN : LN n s b) : ∀ m k (α : Nat → Nat → Nat) (z : Nat → Nat) (S : Nat → Nat → Int32), k + m = 16 → IG s b c α z S lo hi K β h22 k ns nq → ∃ α' z' S', IG s b c α' z' S' lo hi K β h22 16 ns nq ∧ α' 0 14 = α 0 14 ∧ (∀ Q : Int32 → (Nat → Nat → Int32) → Prop, (∃ f, wX5_gather_b249 a1 f 0 (nR α') Q) → wX5_gather_b219 a1 (m + 1) (nI k) (nR α) Q) ∧ (∀ Q : Unit → (Nat → Nat → Int32) → Prop, Q () S' → wX1_bringAll_b2 n 6 (m + 1) (nI k) S Q)
  | 0, k, α, z, S, e, hg => by
    have hsz := (show 0 ≤ 16 by omega)
    refine ⟨α, z, S, ?_, rfl, fun Q hQ => ?_, fun Q hQ => ?_⟩
    · have e2 : k = 16 := by omega
      rw [e2] at hg
      exact hg
    · rw [wX5_gather_b219, show (16 : Int32) = nI 16 from rfl, nI_leI (by omega) (by omega)]
      exact ⟨fun _ => hQ, fun q => absurd (show 16 ≤ k by omega) q⟩
    · rw [wX1_bringAll_b2, hg.2.2.1.2.1.1.1, nI_leI (by omega) (by omega)]
      exact ⟨fun _ => hQ, fun q => absurd (show 16 ≤ k by omega) q⟩
  | m + 1, k, α, z, S, e, ⟨gi, gk, gr, gx, gp⟩ => by
    have hsz := (show 0 ≤ 16 by omega)
    have hn26 : n 26 = 1 + 14 * s := hN.2.2.2.2.2.2.2.2.2.2.1
    have hv : VV s c α z (α 6 k) := gi.2.2.2.2.2.1.1 k (by omega)
    obtain ⟨α1, z1, S1, r, a1', a2, a3, a4, a5, a6, a7, a8⟩ := J_bring gi gk hc gr hn26 hv
    have hru : UU s α1 z1 r := hv.elim (fun q => Or.inl (a5 q)) (fun q => Or.inr (a6 q))
    have e0 : ∀ i, i ≠ 25 → i ≠ 32 → α1 0 i = α 0 i := a7.2.2.2.2.1
    have eR : α1 6 = α 6 := a7.2.2.2.1 6 (by omega) (by omega) (by omega) (by omega) (by omega)
    have fg : FRG s c α z S α1 z1 S1 0 := FRM_FRG a7
    have x1 := FRG_EX gi.1 fg gx
    have p1 := FRG_PRG fg gp
    have k1 := FRG_KB fg gk
    obtain ⟨b1, b2⟩ := set6 (k := k) a1' a2 (v := r) (hru.imp_right Or.inl)
    obtain ⟨α2, z2, S2, i1, i2, i3, i4⟩ := L_root a1 hc hN m (k + 1) (upN α1 6 k r) z1 (up2 S1 16 k (nI r)) (by
      have e9 := e0 9 (by omega) (by omega)
      have e14 := e0 14 (by omega) (by omega)
      show k + 1 + m = 16
      omega) ⟨b1, k1, b2, ⟨x1.1, RB_item (by omega) (by omega) (by omega) x1.2.1, x1.2.2⟩, ⟨fun i h1 h2 => by
      show UU s α1 z1 _
      rw [up_at]
      split
      · exact hru
      · exact p1.1 i (by omega) h2, p1.2⟩⟩
    refine ⟨α2, z2, S2, i1, ?_, fun Q hQ => ?_, fun Q hQ => ?_⟩
    · rw [i2]
      exact e0 14 (by omega) (by omega)
    · rw [wX5_gather_b219, show (16 : Int32) = nI 16 from rfl, nI_leI (by omega) (by omega), nI_clamp (by omega)]
      refine ⟨fun q => absurd q (by omega), fun _ => ⟨(vp_nI (by omega)).mpr (by omega), ?_⟩⟩
      refine a3 _ ⟨(vp_nI (by omega)).mpr (by omega), ?_⟩
      rintro S44 rfl x46 rfl
      rw [up2_nR, nI_1]
      exact i3 Q hQ
    · have hL := hN
      obtain ⟨L16, L17, L18, L19, L20, L21, -⟩ := hN
      rw [wX1_bringAll_b2, gr.2.1.1.1, nI_leI (by omega) (by omega), nI_clamp (by omega)]
      have ei : S (6 + 10) k = nI (α 6 k) := gr.2.1.1.2 k (by omega)
      rw [ei]
      refine ⟨fun q => absurd q (by omega), fun _ => ⟨(vp_nI (by omega)).mpr (show k < n 16 by omega), ?_⟩⟩
      refine a4 _ ⟨(vp_nI (by omega)).mpr (show k < n 16 by omega), ?_⟩
      rintro S5 rfl x7 rfl
      rw [nI_1]
      exact i4 Q hQ
theorem L_stack (a1 : Int32) (hc : 0 < c) (hN : LN n s b) : ∀ m k (α : Nat → Nat → Nat) (z : Nat → Nat) (S : Nat → Nat → Int32), k + m = α 0 9 → IG s b c α z S lo hi K β h22 nr k nq → ∃ α' z' S', IG s b c α' z' S' lo hi K β h22 nr (α' 0 9) nq ∧ α' 0 14 = α 0 14 ∧ (∀ Q : Int32 → (Nat → Nat → Int32) → Prop, (∃ f, wX5_gather_b281 a1 f 0 (nR α') Q) → wX5_gather_b249 a1 (m + 1) (nI k) (nR α) Q) ∧ (∀ Q : Unit → (Nat → Nat → Int32) → Prop, Q () S' → wX1_bringAll_b2 n 7 (m + 1) (nI k) S Q)
  | 0, k, α, z, S, e, hg => by
    have hsz := hg.1.2.2.2.2.2.1.2.1
    refine ⟨α, z, S, ?_, rfl, fun Q hQ => ?_, fun Q hQ => ?_⟩
    · have e2 : k = α 0 9 := by omega
      rw [e2] at hg
      exact hg
    · rw [wX5_gather_b249, nR_at, nI_leI (by omega) (by omega)]
      exact ⟨fun _ => hQ, fun q => absurd (show α 0 9 ≤ k by omega) q⟩
    · rw [wX1_bringAll_b2, hg.2.2.1.2.1.2.1.1, nI_leI (by omega) (by omega)]
      exact ⟨fun _ => hQ, fun q => absurd (show α 0 9 ≤ k by omega) q⟩
  | m + 1, k, α, z, S, e, ⟨gi, gk, gr, gx, gp⟩ => by
    have hsz := gi.2.2.2.2.2.1.2.1
    have hn26 : n 26 = 1 + 14 * s := hN.2.2.2.2.2.2.2.2.2.2.1
    have hv : VV s c α z (α 7 k) := gi.2.2.2.2.2.1.2.2.1 k (by omega)
    obtain ⟨α1, z1, S1, r, a1', a2, a3, a4, a5, a6, a7, a8⟩ := J_bring gi gk hc gr hn26 hv
    have hru : UU s α1 z1 r := hv.elim (fun q => Or.inl (a5 q)) (fun q => Or.inr (a6 q))
    have e0 : ∀ i, i ≠ 25 → i ≠ 32 → α1 0 i = α 0 i := a7.2.2.2.2.1
    have eR : α1 7 = α 7 := a7.2.2.2.1 7 (by omega) (by omega) (by omega) (by omega) (by omega)
    have fg : FRG s c α z S α1 z1 S1 0 := FRM_FRG a7
    have x1 := FRG_EX gi.1 fg gx
    have p1 := FRG_PRG fg gp
    have k1 := FRG_KB fg gk
    obtain ⟨b1, b2⟩ := set7 (k := k) a1' a2 (v := r) (hru.imp_right Or.inl)
    obtain ⟨α2, z2, S2, i1, i2, i3, i4⟩ := L_stack a1 hc hN m (k + 1) (upN α1 7 k r) z1 (up2 S1 17 k (nI r)) (by
      have e9 := e0 9 (by omega) (by omega)
      have e14 := e0 14 (by omega) (by omega)
      show k + 1 + m = α1 0 9
      omega) ⟨b1, k1, b2, ⟨x1.1, RB_item (by omega) (by omega) (by omega) x1.2.1, x1.2.2⟩, ⟨p1.1, fun i h1 h2 => by
      show UU s α1 z1 _
      rw [up_at]
      split
      · exact hru
      · exact p1.2.1 i (by omega) h2, p1.2.2⟩⟩
    refine ⟨α2, z2, S2, i1, ?_, fun Q hQ => ?_, fun Q hQ => ?_⟩
    · rw [i2]
      exact e0 14 (by omega) (by omega)
    · rw [wX5_gather_b249, nR_at, nI_leI (by omega) (by omega), nI_clamp (by omega)]
      refine ⟨fun q => absurd q (by omega), fun _ => ⟨(vp_nI (by omega)).mpr (by omega), ?_⟩⟩
      refine a3 _ ⟨(vp_nI (by omega)).mpr (by omega), ?_⟩
      rintro S44 rfl x46 rfl
      rw [up2_nR, nI_1]
      exact i3 Q hQ
    · have hL := hN
      obtain ⟨L16, L17, L18, L19, L20, L21, -⟩ := hN
      rw [wX1_bringAll_b2, gr.2.1.2.1.1, nI_leI (by omega) (by omega), nI_clamp (by omega)]
      have ei : S (7 + 10) k = nI (α 7 k) := gr.2.1.2.1.2 k (by omega)
      rw [ei]
      refine ⟨fun q => absurd q (by omega), fun _ => ⟨(vp_nI (by omega)).mpr (show k < n 17 by omega), ?_⟩⟩
      refine a4 _ ⟨(vp_nI (by omega)).mpr (show k < n 17 by omega), ?_⟩
      rintro S5 rfl x7 rfl
      rw [nI_1]
      exact i4 Q hQ
theorem L_queue (a1 : Int32) (hc : 0 < c) (hN : LN n s b) : ∀ m k (α : Nat → Nat → Nat) (z : Nat → Nat) (S : Nat → Nat → Int32), k + m = α 0 14 → IG s b c α z S lo hi K β h22 nr ns k → ∃ α' z' S', IG s b c α' z' S' lo hi K β h22 nr ns (α' 0 14) ∧ α' 0 14 = α 0 14 ∧ (∀ Q : Int32 → (Nat → Nat → Int32) → Prop, (wX5_bringRows a1 (nR α') (fun _ S65 => wX5_scan S65 (fun _ S67 => wX5_grantWishes S67 (fun _ S69 => wX5_scan S69 (fun _ S71 => ∃ f72, wX5_gather_b330 a1 f72 0 S71 Q))))) → wX5_gather_b281 a1 (m + 1) (nI k) (nR α) Q) ∧ (∀ Q : Unit → (Nat → Nat → Int32) → Prop, Q () S' → wX1_bringAll_b2 n 10 (m + 1) (nI k) S Q)
  | 0, k, α, z, S, e, hg => by
    have hsz := (show α 0 14 ≤ 448 ∧ α 0 14 ≤ 7 * s / 2 by have := hg.1.2.2.2.2.2.1.2.2.2.2.1; have := hg.1.1.1.2.1; omega)
    refine ⟨α, z, S, ?_, rfl, fun Q hQ => ?_, fun Q hQ => ?_⟩
    · have e2 : k = α 0 14 := by omega
      rw [e2] at hg
      exact hg
    · rw [wX5_gather_b281, nR_at, nI_leI (by omega) (by omega)]
      exact ⟨fun _ => hQ, fun q => absurd (show α 0 14 ≤ k by omega) q⟩
    · rw [wX1_bringAll_b2, hg.2.2.1.2.1.2.2.2.2.1.1, nI_leI (by omega) (by omega)]
      exact ⟨fun _ => hQ, fun q => absurd (show α 0 14 ≤ k by omega) q⟩
  | m + 1, k, α, z, S, e, ⟨gi, gk, gr, gx, gp⟩ => by
    have hsz := (show α 0 14 ≤ 448 ∧ α 0 14 ≤ 7 * s / 2 by have := gi.2.2.2.2.2.1.2.2.2.2.1; have := gi.1.1.2.1; omega)
    have hn26 : n 26 = 1 + 14 * s := hN.2.2.2.2.2.2.2.2.2.2.1
    have hv : VV s c α z (α 10 k) := Or.inr (gi.2.2.2.2.2.1.2.2.2.2.2.2 k (by omega))
    obtain ⟨α1, z1, S1, r, a1', a2, a3, a4, a5, a6, a7, a8⟩ := J_bring gi gk hc gr hn26 hv
    have hru : UU s α1 z1 r := hv.elim (fun q => Or.inl (a5 q)) (fun q => Or.inr (a6 q))
    have e0 : ∀ i, i ≠ 25 → i ≠ 32 → α1 0 i = α 0 i := a7.2.2.2.2.1
    have eR : α1 10 = α 10 := a7.2.2.2.1 10 (by omega) (by omega) (by omega) (by omega) (by omega)
    have fg : FRG s c α z S α1 z1 S1 0 := FRM_FRG a7
    have x1 := FRG_EX gi.1 fg gx
    have p1 := FRG_PRG fg gp
    have k1 := FRG_KB fg gk
    have hvo : Ob s c α z (α 10 k) := gi.2.2.2.2.2.1.2.2.2.2.2.2 k (by omega)
    have e9' : α1 9 = α 9 := a7.2.2.2.1 9 (by omega) (by omega) (by omega) (by omega) (by omega)
    have e12 := e0 12 (by omega) (by omega)
    have e14' := e0 14 (by omega) (by omega)
    obtain ⟨b1, b2⟩ := set10 (k := k) a1' a2 (v := r) (Or.inl (a6 hvo)) (fun j hj hjk => by
      rw [eR]
      rw [e14'] at hj
      refine a8 hvo _ (gi.2.2.2.2.2.1.2.2.2.2.2.2 j hj) ?_
      rcases Nat.lt_or_ge j k with q | q
      · exact EE_sym (gi.2.2.2.2.2.2.1.2.1 j k q (by omega))
      · exact gi.2.2.2.2.2.2.1.2.1 k j (by omega) hj) (fun i hi' ha => by
      rw [e9']
      rw [e12] at hi'
      exact a8 hvo _ (gi.2.2.2.2.2.1.2.2.2.2.2.1 i hi' ha) (EE_sym (gi.2.2.2.2.2.2.1.2.2 i k hi' (by omega) ha)))
    obtain ⟨α2, z2, S2, i1, i2, i3, i4⟩ := L_queue a1 hc hN m (k + 1) (upN α1 10 k r) z1 (up2 S1 20 k (nI r)) (by
      have e9 := e0 9 (by omega) (by omega)
      have e14 := e0 14 (by omega) (by omega)
      show k + 1 + m = α1 0 14
      omega) ⟨b1, k1, b2, ⟨x1.1, RB_item (by omega) (by omega) (by omega) x1.2.1, x1.2.2⟩, ⟨p1.1, p1.2.1, fun i h1 h2 => by
      show OU s α1 z1 _
      rw [up_at]
      split
      · exact a6 hvo
      · exact p1.2.2.1 i (by omega) h2, p1.2.2.2⟩⟩
    refine ⟨α2, z2, S2, i1, ?_, fun Q hQ => ?_, fun Q hQ => ?_⟩
    · rw [i2]
      exact e0 14 (by omega) (by omega)
    · rw [wX5_gather_b281, nR_at, nI_leI (by omega) (by omega), nI_clamp (by omega)]
      refine ⟨fun q => absurd q (by omega), fun _ => ⟨(vp_nI (by omega)).mpr (by omega), ?_⟩⟩
      refine a3 _ ⟨(vp_nI (by omega)).mpr (by omega), ?_⟩
      rintro S44 rfl x46 rfl
      rw [up2_nR, nI_1]
      exact i3 Q hQ
    · have hL := hN
      obtain ⟨L16, L17, L18, L19, L20, L21, -⟩ := hN
      rw [wX1_bringAll_b2, gr.2.1.2.2.2.2.1.1, nI_leI (by omega) (by omega), nI_clamp (by omega)]
      have ei : S (10 + 10) k = nI (α 10 k) := gr.2.1.2.2.2.2.1.2 k (by omega)
      rw [ei]
      refine ⟨fun q => absurd q (by omega), fun _ => ⟨(vp_nI (by omega)).mpr (show k < n 20 by omega), ?_⟩⟩
      refine a4 _ ⟨(vp_nI (by omega)).mpr (show k < n 20 by omega), ?_⟩
      rintro S5 rfl x7 rfl
      rw [nI_1]
      exact i4 Q hQ
end PLI
