/-! THE PURE PART: wishes are granted: the loop -/
theorem RB_of {s c : Nat} {α : Nat → Nat → Nat} {z : Nat → Nat} {S S' : Nat → Nat → Int32} (h1 : S' 1 = S 1) (h : ∀ k, (12 ≤ k ∧ k < 16) ∨ (22 ≤ k ∧ k < 26) → S' k = S k) (hb : RB s c α z S) : RB s c α z S' := by
  intro r hr
  have := rrow_in (S 1 9) hr
  rw [h1, h (rrow (S 1 9) r) (by omega), h (rrow (S 1 9) r + 10) (by omega)]
  exact hb r hr
section PG2
variable {s b c nr ns : Nat} {n : Nat → Nat} {β : Nat → Nat → Nat} {h22 : Nat → Nat}
theorem gr_end {α : Nat → Nat → Nat} {z : Nat → Nat} {S : Nat → Nat → Int32} {lo : Nat} (hg : IG s b c α z S lo (α 0 12) (KS s β h22) β h22 nr ns 1000) : IG s b c (upN α 0 12 lo) z (up2 S 9 1 (nI lo)) lo lo (KS s β h22) (upN β 0 12 lo) h22 nr ns 1000 := by
  obtain ⟨gi, gk, gr, gx, gp⟩ := hg
  obtain ⟨hn, hs, hz, hw, hff, hl, hd, hq, hrr, hk⟩ := gi
  obtain ⟨l1, l0, l2, l3, l4, l5, l6⟩ := hl
  obtain ⟨d1, d2, d3⟩ := hd
  obtain ⟨q1, q2, q3, q4, q5⟩ := RS_item (k := 9) (i := 1) (x := nI lo) (by omega) (by omega) (by omega) gr
  obtain ⟨x1, x2, x3, x7, x8, x9, x10, x11, x12, x13⟩ := gx
  obtain ⟨r0, r01, r02, ⟨r1, r2⟩, r3⟩ := gr.2.1
  refine ⟨⟨hn, hs, hz, hw, hff, ⟨l1, l0, l2, l3, ⟨Nat.le_refl _, Nat.le_refl _, ?_, ?_⟩, fun i hi ha => ?_, l6⟩, ⟨fun i j hij hj ai aj => ?_, d2, fun i j hi hj ha => ?_⟩, hq, hrr, hk⟩, gk, ⟨q1, ⟨r0, r01, r02, ⟨rfl, fun i hi => ?_⟩, r3⟩, q2, q3, q4, q5⟩, ⟨x1, RB_item (by omega) (by omega) (by omega) x2, x3, x7, x8, x9, x10, x11, x12, rfl⟩, ⟨gp.1, gp.2.1, gp.2.2.1, fun i h1 h2 => ?_⟩⟩
  · show lo + (lo - lo) + α 0 14 ≤ _
    omega
  · show lo ≤ _
    omega
  · have hi2 : i < lo := hi
    exact l5 i (by omega) (by omega)
  · have hj2 : j < lo := hj
    exact d1 i j hij (by omega) (by omega) (by omega)
  · have hi2 : i < lo := hi
    exact d3 i j (by omega) hj (by omega)
  · have hi2 : i < lo := hi
    exact r2 i (by omega)
  · have hi2 : i < lo := h2
    exact gp.2.2.2 i h1 (by omega)
theorem L_grant (hc : 0 < c) (hN : LN n s b) : ∀ m k lo (α : Nat → Nat → Nat) (z : Nat → Nat) (S : Nat → Nat → Int32), k + m = α 0 12 → lo ≤ k → IG s b c α z S lo k (KS s β h22) β h22 nr ns 1000 → ∃ α' z' S' N, IG s b c α' z' S' N N (KS s β h22) (upN β 0 12 N) h22 nr ns 1000 ∧ α' 0 12 = N ∧ (∀ Q : Unit → (Nat → Nat → Int32) → Prop, Q () (nR α') → wX5_grantWishes_b4 (m + 1) (nI k) (nI lo) (nR α) Q) ∧ (∀ Q : Unit → (Nat → Nat → Int32) → Prop, Q () S' → wX1_grantWishes_b4 n (m + 1) (nI k) (nI lo) S Q)
  | 0, k, lo, α, z, S, e, hlk, hg => by
    have hsz := hg.1.2.2.2.2.2.1.2.2.2.2.1
    have hs1 := hg.1.1.1.2.1
    have e2 : k = α 0 12 := by omega
    subst e2
    refine ⟨_, z, _, lo, gr_end hg, rfl, fun Q hQ => ?_, fun Q hQ => ?_⟩
    · rw [wX5_grantWishes_b4, nR_at, nI_leI (by omega) (by omega)]
      refine ⟨fun _ => ?_, fun q => absurd (Nat.le_refl _) q⟩
      rintro S3 rfl
      rw [up2_nR]
      exact hQ
    · rw [wX1_grantWishes_b4, hg.2.2.1.2.1.2.2.2.1.1, nI_leI (by omega) (by omega)]
      refine ⟨fun _ => ?_, fun q => absurd (Nat.le_refl _) q⟩
      rintro S3 rfl
      exact hQ
  | m + 1, k, lo, α, z, S, e, hlk, ⟨gi, gk, gr, gx, gp⟩ => by
    have hsz := gi.2.2.2.2.2.1.2.2.2.2.1
    have hs1 := gi.1.1.2.1
    have hn26 : n 26 = 1 + 14 * s := hN.2.2.2.2.2.2.2.2.2.2.1
    have hn19 : n 19 = 7 * s / 2 := hN.2.2.2.1
    have hn20 : n 20 = 7 * s / 2 := hN.2.2.2.2.1
    have hvo : Ob s c α z (α 9 k) := gi.2.2.2.2.2.1.2.2.2.2.2.1 k (by omega) (Or.inr (Nat.le_refl _))
    have hvl := Ob_lt gi.1 hvo
    obtain ⟨α1, z1, S1, r, a1, a2, a3, a4, a5, a6, a7, a8⟩ := J_bring gi gk hc gr hn26 (Or.inr hvo)
    have hru := a6 hvo
    have hrl := U_lt a1.1 hru.1
    have e0 : ∀ i, i ≠ 25 → i ≠ 32 → α1 0 i = α 0 i := a7.2.2.2.2.1
    have e12 := e0 12 (by omega) (by omega)
    have e14 := e0 14 (by omega) (by omega)
    have e9' : α1 9 = α 9 := a7.2.2.2.1 9 (by omega) (by omega) (by omega) (by omega) (by omega)
    have e10' : α1 10 = α 10 := a7.2.2.2.1 10 (by omega) (by omega) (by omega) (by omega) (by omega)
    have fg : FRG s c α z S α1 z1 S1 0 := FRM_FRG a7
    have x1 := FRG_EX gi.1 fg gx
    have p1 := FRG_PRG fg gp
    have k1 := FRG_KB fg gk
    have h10 : ∀ j, j < α1 0 14 → EE s c α1 z1 r (α1 10 j) := fun j hj => by
      rw [e14] at hj
      rw [e10']
      exact a8 hvo _ (gi.2.2.2.2.2.1.2.2.2.2.2.2 j hj) (gi.2.2.2.2.2.2.1.2.2 k j (by omega) hj (Or.inr (Nat.le_refl _)))
    have h9 : ∀ i, i < α1 0 12 → i < lo ∨ k + 1 ≤ i → EE s c α1 z1 r (α1 9 i) := fun i hi ha => by
      rw [e12] at hi
      rw [e9']
      refine a8 hvo _ (gi.2.2.2.2.2.1.2.2.2.2.2.1 i hi (by omega)) ?_
      rcases ha with q | q
      · exact EE_sym (gi.2.2.2.2.2.2.1.1 i k (by omega) (by omega) (Or.inl q) (Or.inr (Nat.le_refl _)))
      · exact gi.2.2.2.2.2.2.1.1 k i (by omega) hi (Or.inr (Nat.le_refl _)) (Or.inr (by omega))
    have ei : S 19 k = nI (α 9 k) := gr.2.1.2.2.2.1.2 k (by omega)
    by_cases hA : inF s c α (α 9 k) ∧ α 2 (α 9 k) = 0
    · have hhd := (a1.2.2.2.1 r (Or.inl hru)).1.2
      obtain ⟨b1, b2⟩ := J_head a1 a2 hru
      obtain ⟨c1, c2⟩ := add10 (v := r) b1 b2 (by show k < α1 0 12; omega) (Or.inl hru) h10 h9
      have gx3 : EX s c (upN (upN (upN α1 1 r (α1 1 r % 64)) 10 (upN α1 1 r (α1 1 r % 64) 0 14) r) 0 14 (upN α1 1 r (α1 1 r % 64) 0 14 + 1)) z1 (rmS (up2 S1 26 r (nI (α1 1 r % 64))) 10 (upN α1 1 r (α1 1 r % 64) 0 14) (nI r)) β h22 := by
        obtain ⟨y1, y2, y3, y7⟩ := x1
        refine ⟨y1, ?_, y3, y7⟩
        refine RB_of (S := S1) ?_ ?_ y2
        · unfold rmS
          rw [up2_row _ (by omega), up2_row _ (by omega), up2_row _ (by omega)]
        · intro q hq
          unfold rmS
          rw [up2_row _ (by omega), up2_row _ (by omega), up2_row _ (by omega)]
      obtain ⟨α2, z2, S2, N, i1, i2, i3, i4⟩ := L_grant hc hN m (k + 1) lo _ z1 _ (by show k + 1 + m = α1 0 12; omega) (by omega) ⟨c1, k1, c2, gx3, ⟨p1.1, p1.2.1, fun i h1 h2 => by
        have h2' : i < α1 0 14 + 1 := h2
        show OU s α1 z1 (upN (upN (upN α1 1 r (α1 1 r % 64)) 10 (upN α1 1 r (α1 1 r % 64) 0 14) r) 0 14 (upN α1 1 r (α1 1 r % 64) 0 14 + 1) 10 i)
        rw [upN_row _ (by omega), up_at]
        split
        · exact hru
        · rename_i ne
          have ne' : ¬ i = α1 0 14 := ne
          exact p1.2.2.1 i h1 (by omega), p1.2.2.2⟩⟩
      refine ⟨α2, z2, S2, N, i1, i2, fun Q hQ => ?_, fun Q hQ => ?_⟩
      · rw [wX5_grantWishes_b4, nR_at, nI_leI (by omega) (by omega), nI_clamp (by omega)]
        refine ⟨fun q => absurd q (by omega), fun _ => ⟨(vp_nI (by omega)).mpr (by omega), ?_⟩⟩
        refine M_from_t gi.1 hA.1 ?_
        refine ⟨fun q => (by simp at q), fun _ => ⟨(vp_nI (by omega)).mpr (by omega), fun _ => ?_, fun q => ?_⟩⟩
        · refine a3 _ ⟨(vp_nI (by omega)).mpr (by omega), (vp_nI (by omega)).mpr (by omega), ?_⟩
          rw [nI_clamp (show r < 2 ^ 31 by omega), nR_at, and63 _ hhd, up2_nR]
          rintro S11 rfl
          rw [show nR (upN α1 1 r (α1 1 r % 64)) 0 14 = nI (α1 0 14) from rfl, nI_clamp (by omega)]
          refine ⟨(vp_nI (by omega)).mpr (by omega), ?_⟩
          rintro S13 rfl
          rw [up2_nR]
          rintro S15 rfl
          rw [show nR (upN (upN α1 1 r (α1 1 r % 64)) 10 (α1 0 14) r) 0 14 = nI (α1 0 14) from rfl, nI_1, up2_nR]
          rintro x23 rfl
          rw [nI_1]
          exact i3 Q hQ
        · rw [nR_at, nR_at, nI_clamp (by omega), hA.2] at q
          exact absurd nI_0 q
      · have w26 : S 26 (α 9 k) = nI (α 1 (α 9 k)) := gr.2.2.2.1.2 _ (Or.inr hA.1) (fun q => q.2 hA.2)
        have hhx := (gi.2.2.2.1 _ hvo).1.2
        rw [wX1_grantWishes_b4, gr.2.1.2.2.2.1.1, nI_leI (by omega) (by omega), nI_clamp (show k < 2 ^ 31 by omega), ei]
        refine ⟨fun q => absurd q (by omega), fun _ => ⟨(vp_nI (by omega)).mpr (by omega), ?_⟩⟩
        refine C_home hs1 (by omega) gr.1 ?_
        refine C_from_t gi.1 gr.1 hA.1 ?_
        rw [nI_clamp (show α 9 k < 2 ^ 31 by omega), w26]
        refine ⟨fun q => (by simp at q), fun _ => ⟨(vp_nI (by omega)).mpr (by omega), fun q => absurd q (nI_pos (by omega)), fun _ => ?_⟩⟩
        unfold wX1_grantWishes_b51
        refine a4 _ ?_
        refine ⟨fun q => absurd q (by decide), fun _ => ⟨(vp_nI (by omega)).mpr (by omega), (vp_nI (by omega)).mpr (by omega), ?_⟩⟩
        rw [nI_clamp (show r < 2 ^ 31 by omega), a2.2.2.2.1.2 r (Or.inl hru.1) (fun q => UF_no a1.1 hru.1 q.1.1), andM65 _ hhd]
        rintro S19 rfl
        refine C_add (cnt := α1 0 14) ?_ ?_ ?_ ?_
        · rw [up2_row _ (by omega)]
          exact a2.2.1.2.2.2.2.1.1
        · show α1 0 14 < n 20
          omega
        · show n 20 < 2 ^ 20
          omega
        · rintro x23 rfl
          rw [nI_1]
          exact i4 Q hQ
    · obtain ⟨b1, b2⟩ := set9 (v := r) a1 a2 (by omega) (Or.inl hru) h10 h9
      have gx3 : EX s c (upN α1 9 lo r) z1 (up2 S1 19 lo (nI r)) β h22 := by
        obtain ⟨y1, y2, y3, y7⟩ := x1
        exact ⟨y1, RB_item (by omega) (by omega) (by omega) y2, y3, y7⟩
      obtain ⟨α2, z2, S2, N, i1, i2, i3, i4⟩ := L_grant hc hN m (k + 1) (lo + 1) _ z1 _ (by show k + 1 + m = α1 0 12; omega) (by omega) ⟨b1, k1, b2, gx3, ⟨p1.1, p1.2.1, p1.2.2.1, fun i h1 h2 => by
        have h2' : i < α1 0 12 := h2
        show OU s α1 z1 (upN α1 9 lo r 9 i)
        rw [up_at]
        split
        · exact hru
        · exact p1.2.2.2 i (by omega) h2'⟩⟩
      refine ⟨α2, z2, S2, N, i1, i2, fun Q hQ => ?_, fun Q hQ => ?_⟩
      · have key : wX5_grantWishes_b84 (fun z0 z1 T => wX5_grantWishes_b4 (m + 1) z0 z1 T Q) (nI (α 9 k)) (nI k) (nI lo) (nR α) Q := by
          unfold wX5_grantWishes_b84
          refine a3 _ ⟨(vp_nI (by omega)).mpr (by omega), ?_⟩
          rw [nI_clamp (show lo < 2 ^ 31 by omega), up2_nR]
          rintro S19 rfl x21 rfl x23 rfl
          rw [nI_1, nI_1]
          exact i3 Q hQ
        rw [wX5_grantWishes_b4, nR_at, nI_leI (by omega) (by omega), nI_clamp (by omega)]
        refine ⟨fun q => absurd q (by omega), fun _ => ⟨(vp_nI (by omega)).mpr (by omega), ?_⟩⟩
        by_cases hF : inF s c α (α 9 k)
        · refine M_from_t gi.1 hF ?_
          refine ⟨fun q => (by simp at q), fun _ => ⟨(vp_nI (by omega)).mpr (by omega), fun q => ?_, fun _ => key⟩⟩
          have h0 : α 2 (α 9 k) ≠ 0 := fun q => hA ⟨hF, q⟩
          have hfw := hvo.elim (fun q => (UF_no gi.1 q.1 hF).elim) (fun q => U_lt gi.1 (gi.2.2.2.2.1 _ q h0).1.1)
          rw [nR_at, nR_at, nI_clamp (by omega), ← nI_0, nI_eq (by omega) (by omega)] at q
          exact absurd q h0
        · refine M_from_f gi.1 hc (by omega) hF ?_
          exact ⟨fun _ => key, fun q => (by simp at q)⟩
      · have key : wX1_grantWishes_b50 n (fun z0 z1 T => wX1_grantWishes_b4 n (m + 1) z0 z1 T Q) (nI (α 9 k)) (nI k) (nI lo) S Q := by
          unfold wX1_grantWishes_b50 wX1_grantWishes_b51
          refine a4 _ ⟨fun _ => ⟨(vp_nI (by omega)).mpr (by omega), ?_⟩, fun q => absurd rfl q⟩
          rw [nI_clamp (show lo < 2 ^ 31 by omega)]
          rintro S15 rfl x17 rfl x23 rfl
          rw [nI_1, nI_1]
          exact i4 Q hQ
        rw [wX1_grantWishes_b4, gr.2.1.2.2.2.1.1, nI_leI (by omega) (by omega), nI_clamp (show k < 2 ^ 31 by omega), ei]
        refine ⟨fun q => absurd q (by omega), fun _ => ⟨(vp_nI (by omega)).mpr (by omega), ?_⟩⟩
        refine C_home hs1 (by omega) gr.1 ?_
        by_cases hF : inF s c α (α 9 k)
        · refine C_from_t gi.1 gr.1 hF ?_
          have h0 : α 2 (α 9 k) ≠ 0 := fun q => hA ⟨hF, q⟩
          have hOF := hvo.elim (fun q => (UF_no gi.1 q.1 hF).elim) (fun q => q)
          have hfw := U_lt gi.1 (gi.2.2.2.2.1 _ hOF h0).1.1
          rw [nI_clamp (show α 9 k < 2 ^ 31 by omega), gr.2.2.2.1.1 _ hOF h0]
          exact ⟨fun q => (by simp at q), fun _ => ⟨(vp_nI (by omega)).mpr (by omega), fun _ => key, fun q => absurd (nI_neg' (by omega) (by omega)) q⟩⟩
        · have hU := hvo.elim (fun q => q) (fun q => absurd q.1 hF)
          refine C_from_f gi.1 gr.1 (Or.inr hU.1) ?_
          exact ⟨fun _ => key, fun q => (by simp at q)⟩
end PG2
