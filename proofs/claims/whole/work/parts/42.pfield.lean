/-! THE PURE PART: a field is brought and remembered -/
def FRG (s c : Nat) (α : Nat → Nat → Nat) (z : Nat → Nat) (S : Nat → Nat → Int32) (α' : Nat → Nat → Nat) (z' : Nat → Nat) (S' : Nat → Nat → Int32) (f : Nat) : Prop :=
  (∀ x, OU s α z x → OU s α' z' x) ∧ (∀ x, OF s c α' z' x ↔ OF s c α z x) ∧ (∀ x, inU s α x ∨ inF s c α x → z' x = z x ∧ (x ≠ f → α' 1 x = α 1 x)) ∧
  (∀ k, k ≠ 0 → k ≠ 1 → k ≠ 2 → k ≠ 5 → k ≠ 12 → k ≠ 13 → k ≠ 21 → α' k = α k) ∧ (∀ i, i ≠ 25 → i ≠ 32 → α' 0 i = α 0 i) ∧
  ((∀ k, (6 ≤ k ∧ k < 12) ∨ (16 ≤ k ∧ k < 22) → S' k = S k) ∧ S' 1 8 = S 1 8 ∧ S' 1 9 = S 1 9 ∧ ∀ r, r < 2 → S' (rrow (S 1 9) r) = S (rrow (S 1 9) r) ∧ S' (rrow (S 1 9) r + 10) = S (rrow (S 1 9) r + 10)) ∧ (∀ g, α 5 g ≤ α' 5 g) ∧ (∀ g, g < 3 → α 5 g < α' 5 g → z' (st s α g + α 5 g) ≠ 0)
section PJP
variable {s b c : Nat} {α : Nat → Nat → Nat} {z : Nat → Nat} {S : Nat → Nat → Int32} {n : Nat → Nat}
theorem Gi_K {lo hi : Nat} {K K' : Nat → Prop} (h : Gi s b c α z lo hi K) (hk : ∀ x, K' x → FU s α z x → K x) : Gi s b c α z lo hi K' := by
  obtain ⟨hn, hs, hz, hw, hff, hl, hd, hq, hrr, hk'⟩ := h
  exact ⟨hn, hs, hz, hw, hff, hl, hd, hq, hrr, fun x h1 h2 => hk' x (hk x h1 h2) h2⟩
theorem J_put {lo hi f v : Nat} {K : Nat → Prop} (hi' : Gi s b c α z lo hi K) (hr : RS s c α z S) (hf : FU s α z f) (hv : VV s c α z v) (hK : ∀ x, K x → x ≠ f) : Gi s b c (upN α 1 f v) z lo hi K ∧ RS s c (upN α 1 f v) z (up2 S 26 f (nI v)) := by
  obtain ⟨hn, hs, hz, hw, hff, hl, hd, hq, hrr, hk⟩ := hi'
  obtain ⟨hfU, hfz⟩ := FU_in hn hz hf
  have e1 : ∀ x, x ≠ f → upN α 1 f v 1 x = α 1 x := fun x hx => upN_ne _ (Or.inr hx)
  refine ⟨⟨hn, hs, hz, ?_, hff, hl, hd, hq, hrr, ?_⟩, ?_⟩
  · intro o ho
    have hz0 : z o ≠ 0 := ho.elim (fun q => q.2) (fun q => q.2)
    rw [e1 o (fun q => hz0 (q ▸ hfz))]
    refine ⟨(hw o ho).1, fun x h1 h2 => ?_⟩
    by_cases e : x = f
    · rw [e, upN_hit]
      exact hv
    · rw [e1 x e]
      exact (hw o ho).2 x h1 h2
  · intro x h1 h2
    have h3 := hk x h1 h2
    refine ⟨h3.1, ?_⟩
    unfold DN
    rw [e1 x (hK x h1)]
    exact h3.2
  · obtain ⟨rg, rl, rr, rw', rc, rm⟩ := hr
    have row : ∀ k, k ≠ 26 → up2 S 26 f (nI v) k = S k := fun k h1 => up2_row _ h1
    refine ⟨?_, ?_, ?_, ?_, ?_, ?_⟩
    · intro g hg
      rw [row (3 + g) (by omega)]
      exact rg g hg
    · unfold RLs at rl ⊢
      rw [row 6 (by omega), row 7 (by omega), row 8 (by omega), row 9 (by omega), row 10 (by omega), row 11 (by omega), row 16 (by omega), row 17 (by omega), row 18 (by omega), row 19 (by omega), row 20 (by omega), row 21 (by omega)]
      exact rl
    · intro r hr
      have := rrow_in (S 1 8) hr
      rw [row 1 (by omega), row _ (by omega), row _ (by omega)]
      exact rr r hr
    · constructor
      · intro x hx h0
        have : x ≠ f := fun q => UF_no hn hfU (q ▸ hx.1)
        rw [up2_mis _ _ this]
        exact rw'.1 x hx h0
      · intro x hx h0
        by_cases e : x = f
        · rw [e, up2_hit, upN_hit]
        · rw [up2_mis _ _ e, e1 x e]
          exact rw'.2 x hx h0
    · unfold RC at rc ⊢
      rw [row 1 (by omega)]
      exact rc
    · unfold RM at rm ⊢
      rw [row 2 (by omega), row 27 (by omega), row 28 (by omega)]
      exact rm
theorem FRM_FU {α' : Nat → Nat → Nat} {z' : Nat → Nat} {S' : Nat → Nat → Int32} (h : FRM s c α z S α' z' S') {f : Nat} (hf : FU s α z f) : FU s α' z' f := by
  obtain ⟨o, h1, h2, h3⟩ := hf
  exact ⟨o, h.1 o h1, h2, by rw [(h.2.2.1 o (Or.inl h1.1)).2]; exact h3⟩
theorem J_field {lo hi f : Nat} {K : Nat → Prop} (hi' : Gi s b c α z lo hi K) (hK : ∀ f, K f → f < st s α (aG s f) + α 5 (aG s f)) (hc : 0 < c) (hr : RS s c α z S) (hN : LN n s b) (hf : FU s α z f) : ∃ α' z' S', Gi s b c α' z' lo hi (fun x => K x ∨ x = f) ∧ RS s c α' z' S' ∧ (∀ C : (Nat → Nat → Int32) → Prop, C (nR α') → wX5_bring (nI (α 1 f)) (nR α) (fun r S19 => vp_in (nI f) 1793 ∧ ∀ S20, S20 = up2 S19 1 f r → wX5_rememberIf (nI f) S20 (fun _ S23 => C S23))) ∧ (∀ C : (Nat → Nat → Int32) → Prop, C S' → wX1_brought n (nI (α 1 f)) S (fun r S10 => vp_in (nI f) (n 26) ∧ ∀ S11, S11 = up2 S10 26 f r → wX1_remember n (nI f) S11 (fun _ S14 => C S14))) ∧ FRG s c α z S α' z' S' f := by
  have hn26 : n 26 = 1 + 14 * s := hN.2.2.2.2.2.2.2.2.2.2.1
  have hi0 := Gi_K (K' := fun x => K x ∧ x ≠ f) hi' (fun x h _ => h.1)
  have hs1 := hi'.1.1.2.1
  have hfl := U_lt hi'.1 (FU_in hi'.1 hi'.2.2.1 hf).1
  have hv := FU_V hi'.2.2.2.1 hf
  obtain ⟨α1, z1, S1, r, a1, a2, a3, a4, a5, a6, a7, a8⟩ := J_bring hi0 (fun x h => hK x h.1) hc hr hn26 hv
  have hf1 := FRM_FU a7 hf
  have hru : r = 0 ∨ OU s α1 z1 r := hv.elim (fun q => Or.inl (a5 q)) (fun q => Or.inr (a6 q))
  obtain ⟨b1, b2⟩ := J_put a1 a2 hf1 (hru.imp_right Or.inl) (fun x h => h.2)
  obtain ⟨α2, S2, c1, c2, c3, c4, c5, c6, c7, c8⟩ := J_rem b1 b2 hN hf1 (by rw [upN_hit]; exact hru)
  obtain ⟨m1, m2, m3, m4, m5, ⟨m6, m7, m8⟩, m9, m10⟩ := a7
  refine ⟨α2, z1, S2, ?_, c2, fun C hC => ?_, fun C hC => ?_, ?_⟩
  · obtain ⟨hn, hs, hz, hw, hff, hl, hd, hq, hrr, hk⟩ := c1
    refine ⟨hn, hs, hz, hw, hff, hl, hd, hq, hrr, fun x h1 h2 => ?_⟩
    by_cases e : x = f
    · rw [e] at h2 ⊢
      exact ⟨(FU_in hn hz h2).1.2, DNr_DN c8⟩
    · exact hk x ⟨h1.elim (fun q => q) (fun q => absurd q e), e⟩ h2
  · refine a3 _ ⟨(vp_nI (by omega)).mpr (by omega), ?_⟩
    rintro S20 rfl
    rw [up2_nR]
    exact c3 _ hC
  · refine a4 _ ⟨(vp_nI (by omega)).mpr (by omega), ?_⟩
    rintro S11 rfl
    exact c4 _ hC
  · obtain ⟨d1, d2, d3⟩ := c5
    have q4 : ∀ k, k ≠ 1 → k ≠ 12 → k ≠ 13 → α2 k = α1 k := fun k h1 h2 h3 => by
      rw [d1 k h2 h3, upN_row _ h1]
    have q1 : ∀ x, x ≠ f → α2 1 x = α1 1 x := fun x hx => by
      rw [d1 1 (by omega) (by omega), upN_ne _ (Or.inr hx)]
    have e18 : up2 S1 26 f (nI r) 1 = S1 1 := up2_row _ (by omega)
    refine ⟨fun x hx => ?_, fun x => ?_, fun x hx => ⟨(m3 x hx).2, fun hxf => by rw [q1 x hxf, (m3 x hx).1]⟩, fun k h0 h1 h2 h5 h12 h13 h21 => by rw [q4 k h1 h12 h13, m4 k h0 h1 h2 h5 h21], fun i h1 h2 => by rw [q4 0 (by omega) (by omega) (by omega), m5 i h1 h2], ⟨fun k hk => ?_, ?_, ?_, fun r' hr' => ?_⟩, fun g => by rw [q4 5 (by omega) (by omega) (by omega)]; exact m9 g, fun g hg => by rw [q4 5 (by omega) (by omega) (by omega)]; exact m10 g hg⟩
    · have := m1 x hx
      unfold OU inU st at this ⊢
      rw [q4 4 (by omega) (by omega) (by omega), q4 5 (by omega) (by omega) (by omega)]
      exact this
    · rw [← m2 x]
      unfold OF inF
      rw [q4 19 (by omega) (by omega) (by omega), q4 20 (by omega) (by omega) (by omega)]
    · rw [d2 k (by omega), up2_row _ (by omega), m6 k (by omega) (by omega)]
    · rw [d2 1 (by omega), e18, m7]
    · rw [d2 1 (by omega), e18, m8]
    · have h2 := d3 r' hr'
      rw [e18, m8] at h2
      have h3 := rrow_in (S 1 9) hr'
      rw [h2.1, h2.2, up2_row _ (by omega), up2_row _ (by omega), m6 _ (by omega) (by omega), m6 _ (by omega) (by omega)]
      exact ⟨rfl, rfl⟩
end PJP
