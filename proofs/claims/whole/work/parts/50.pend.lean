/-! THE PURE PART: weak places, and a collection's end -/
theorem upN_same {α : Nat → Nat → Nat} {k i : Nat} : upN α k i (α k i) = α := by
  funext j m
  unfold upN
  by_cases e : j = k ∧ m = i
  · rw [if_pos e, e.1, e.2]
  · rw [if_neg e]
def eS (S : Nat → Nat → Int32) (k : Nat) : Nat → Nat → Int32 := fun r i => if 3 ≤ r ∧ r < 3 + k ∧ (i = 6 ∨ i = 7) then 0 else S r i
theorem eS_0 {S : Nat → Nat → Int32} : eS S 0 = S := by
  funext r i
  unfold eS
  rw [if_neg (by omega)]
theorem eS_S {S : Nat → Nat → Int32} {k : Nat} : up2 (up2 (eS S k) (3 + k) 6 0) (3 + k) 7 0 = eS S (k + 1) := by
  funext r i
  rw [up2_get, up2_get]
  unfold eS
  by_cases h : r = 3 + k
  · by_cases h7 : i = 7
    · rw [if_pos ⟨h, h7⟩, if_pos (by omega)]
    · rw [if_neg (fun q => h7 q.2)]
      by_cases h6 : i = 6
      · rw [if_pos ⟨h, h6⟩, if_pos (by omega)]
      · rw [if_neg (fun q => h6 q.2), if_neg (by omega), if_neg (by omega)]
  · rw [if_neg (fun q => h q.1), if_neg (fun q => h q.1)]
    by_cases h2 : 3 ≤ r ∧ r < 3 + k ∧ (i = 6 ∨ i = 7)
    · rw [if_pos h2, if_pos (by omega)]
    · rw [if_neg h2, if_neg (by omega)]
section PEN
variable {s b c nr ns : Nat} {n : Nat → Nat} {β : Nat → Nat → Nat} {h22 : Nat → Nat} {z : Nat → Nat}
theorem C_ends {g0 : Nat} {S : Nat → Nat → Int32} {x : Int32} (hg0 : g0 < 3) {Q : Int32 → (Nat → Nat → Int32) → Prop} (hq : Q (S 1 11 - x) (up2 (eS S (g0 + 1)) (3 + g0) 9 (S (3 + g0) 9 + 1))) : ∀ m k, k + m = g0 + 1 → wX1_gather_b109 n (nI g0) (m + 1) (nI k) x (eS S k) Q
  | 0, k, e => by
    rw [wX1_gather_b109, nI_ltI (by omega) (by omega), nI_clamp (by omega)]
    refine ⟨fun _ => ⟨(vp_nI (by omega)).mpr (by omega), ?_⟩, fun q => absurd (show g0 < k by omega) q⟩
    rintro S32 rfl
    have e1 : eS S k (3 + g0) 9 = S (3 + g0) 9 := if_neg (by omega)
    have e2 : up2 (eS S k) (3 + g0) 9 (eS S k (3 + g0) 9 + 1) 1 11 = S 1 11 := by
      rw [up2_row _ (by omega)]
      exact if_neg (by omega)
    rw [e2, e1, show k = g0 + 1 by omega]
    exact hq
  | m + 1, k, e => by
    rw [wX1_gather_b109, nI_ltI (by omega) (by omega), nI_clamp (show k < 2 ^ 31 by omega)]
    refine ⟨fun q => absurd q (by omega), fun _ => ⟨(vp_nI (by omega)).mpr (by omega), ?_⟩⟩
    rintro S1 rfl S3 rfl x37 rfl
    rw [nI_1, eS_S]
    exact C_ends hg0 hq m (k + 1) (by omega)
theorem L_weak (a1 : Int32) (hc : 0 < c) (hN : LN n s b) {N : Nat} : ∀ m k (α : Nat → Nat → Nat) (S : Nat → Nat → Int32), k + m = 8 → IG s b c α z S N N (KS s β h22) β h22 nr ns 1000 → (∀ i, i < k → UU s α z (α 8 i)) → ∃ α' S', IG s b c α' z S' N N (KS s β h22) β h22 nr ns 1000 ∧ (∀ i, i < 8 → UU s α' z (α' 8 i)) ∧ (∀ k', k' ≠ 8 → α' k' = α k') ∧ (∀ Q : Int32 → (Nat → Nat → Int32) → Prop, wX5_gather_b330 a1 1 (nI 8) (nR α') Q → wX5_gather_b330 a1 (m + 1) (nI k) (nR α) Q) ∧ (∀ Q : Unit → (Nat → Nat → Int32) → Prop, Q () S' → wX1_clearWeakPlaces_b2 n (m + 1) (nI k) S Q)
  | 0, k, α, S, e, hg, hk => by
    have e2 : k = 8 := by omega
    subst e2
    refine ⟨α, S, hg, hk, fun _ _ => rfl, fun Q hQ => hQ, fun Q hQ => ?_⟩
    rw [wX1_clearWeakPlaces_b2, hg.2.2.1.2.1.2.2.1.1]
    exact ⟨fun _ => hQ, fun q => absurd (nI_le (Nat.le_refl _) (by omega)) q⟩
  | m + 1, k, α, S, e, ⟨gi, gk, gr, gx, gp⟩, hk => by
    have hs1 := gi.1.1.2.1
    have hn26 : n 26 = 1 + 14 * s := hN.2.2.2.2.2.2.2.2.2.2.1
    have hn18 : n 18 = 8 := hN.2.2.1
    have hv := gi.2.2.2.2.2.1.2.2.2.1 k (by omega)
    have hvl := VV_lt gi.1 hv
    have ei : S 18 k = nI (α 8 k) := gr.2.1.2.2.1.2 k (by omega)
    -- what stands there then
    have key : ∀ v, UU s α z v → (∀ S1, S1 = up2 S 18 k (nI v) ∨ (S1 = S ∧ v = α 8 k) → ∃ α' S', IG s b c α' z S' N N (KS s β h22) β h22 nr ns 1000 ∧ (∀ i, i < 8 → UU s α' z (α' 8 i)) ∧ (∀ k', k' ≠ 8 → α' k' = α k') ∧ (∀ Q : Int32 → (Nat → Nat → Int32) → Prop, wX5_gather_b330 a1 1 (nI 8) (nR α') Q → wX5_gather_b330 a1 (m + 1) (nI (k + 1)) (nR (upN α 8 k v)) Q) ∧ (∀ Q : Unit → (Nat → Nat → Int32) → Prop, Q () S' → wX1_clearWeakPlaces_b2 n (m + 1) (nI (k + 1)) S1 Q)) := by
      intro v hvu S1 hS1
      have hrec : IG s b c (upN α 8 k v) z S1 N N (KS s β h22) β h22 nr ns 1000 := by
        rcases hS1 with rfl | ⟨rfl, rfl⟩
        · obtain ⟨b1, b2⟩ := set8 (k := k) gi gr (v := v) (hvu.imp_right Or.inl)
          exact ⟨b1, gk, b2, ⟨gx.1, RB_item (by omega) (by omega) (by omega) gx.2.1, gx.2.2⟩, gp⟩
        · rw [upN_same]
          exact ⟨gi, gk, gr, gx, gp⟩
      obtain ⟨α2, S2, i1, i2, i3, i4, i5⟩ := L_weak a1 hc hN m (k + 1) (upN α 8 k v) S1 (by omega) hrec (fun i hi => by
        show UU s α z (upN α 8 k v 8 i)
        rw [up_at]
        split
        · exact hvu
        · exact hk i (by omega))
      exact ⟨α2, S2, i1, i2, fun k' hk' => (i3 k' hk').trans (upN_row _ hk'), i4, i5⟩
    by_cases hF : inF s c α (α 8 k)
    · have hOF : OF s c α z (α 8 k) := by
        rcases hv with q | q | q
        · have := F_lt gi.1 hF
          omega
        · exact (UF_no gi.1 q.1 hF).elim
        · exact q
      have hvu : UU s α z (α 2 (α 8 k)) := by
        by_cases h0 : α 2 (α 8 k) = 0
        · exact Or.inl h0
        · exact Or.inr (gi.2.2.2.2.1 _ hOF h0).1
      have hwl := VV_lt gi.1 (c := c) (hvu.imp_right Or.inl)
      obtain ⟨α2, S2, i1, i2, i3, i4, i5⟩ := key (α 2 (α 8 k)) hvu _ (Or.inl rfl)
      refine ⟨α2, S2, i1, i2, i3, fun Q hQ => ?_, fun Q hQ => ?_⟩
      · rw [wX5_gather_b330, show (8 : Int32) = nI 8 from rfl, nI_leI (by omega) (by omega), nI_clamp (show k < 2 ^ 31 by omega)]
        refine ⟨fun q => absurd q (by omega), fun _ => ⟨(vp_nI (by omega)).mpr (by omega), ?_⟩⟩
        refine M_from_t gi.1 hF ?_
        rw [nR_at, nI_clamp (show α 8 k < 2 ^ 31 by omega), nR_at]
        refine ⟨fun q => (by simp at q), fun _ => ⟨(vp_nI (by omega)).mpr (by omega), (vp_nI (by omega)).mpr (by omega), (vp_nI (by omega)).mpr (by omega), ?_⟩⟩
        rintro S87 rfl x89 rfl
        rw [nI_1, nI_clamp (show k < 2 ^ 31 by omega), up2_nR]
        exact i4 Q hQ
      · rw [wX1_clearWeakPlaces_b2, gr.2.1.2.2.1.1, nI_leI (by omega) (by omega), nI_clamp (show k < 2 ^ 31 by omega), ei]
        refine ⟨fun q => absurd q (by omega), fun _ => ⟨(vp_nI (by omega)).mpr (by omega), ?_⟩⟩
        refine C_home hs1 (by omega) gr.1 ?_
        refine C_from_t gi.1 gr.1 hF ?_
        rw [nI_clamp (show α 8 k < 2 ^ 31 by omega)]
        have hi5 := i5 Q hQ
        by_cases h0 : α 2 (α 8 k) = 0
        · have w26 := gr.2.2.2.1.2 _ (Or.inr hF) (fun q => q.2 h0)
          have hh := (gi.2.2.2.1 _ (Or.inr hOF)).1.2
          rw [w26]
          refine ⟨fun q => (by simp at q), fun _ => ⟨(vp_nI (by omega)).mpr (by omega), fun _ => ?_, fun q => absurd (nI_pos' (by omega)) q⟩⟩
          unfold wX1_clearWeakPlaces_b63 wX1_clearWeakPlaces_b64
          refine ⟨(vp_nI (by omega)).mpr (by omega), ?_⟩
          rintro S12 rfl x10 rfl
          rw [nI_1, nI_clamp (show k < 2 ^ 31 by omega)]
          rw [h0] at hi5
          exact hi5
        · have w26 := gr.2.2.2.1.1 _ hOF h0
          rw [w26]
          refine ⟨fun q => (by simp at q), fun _ => ⟨(vp_nI (by omega)).mpr (by omega), fun q => absurd q (nI_neg (by omega) (by omega)), fun _ => ⟨(vp_nI (by omega)).mpr (by omega), ?_⟩⟩⟩
          unfold wX1_clearWeakPlaces_b63 wX1_clearWeakPlaces_b64
          refine ⟨(vp_nI (by omega)).mpr (by omega), ?_⟩
          rintro S12 rfl x10 rfl
          rw [nI_1, nI_clamp (show k < 2 ^ 31 by omega), nI_nn]
          exact hi5
    · have hvu : UU s α z (α 8 k) := hv.elim Or.inl (fun q => q.elim Or.inr (fun q => absurd q.1 hF))
      obtain ⟨α2, S2, i1, i2, i3, i4, i5⟩ := key (α 8 k) hvu S (Or.inr ⟨rfl, rfl⟩)
      rw [upN_same] at i4
      refine ⟨α2, S2, i1, i2, i3, fun Q hQ => ?_, fun Q hQ => ?_⟩
      · rw [wX5_gather_b330, show (8 : Int32) = nI 8 from rfl, nI_leI (by omega) (by omega), nI_clamp (show k < 2 ^ 31 by omega)]
        refine ⟨fun q => absurd q (by omega), fun _ => ⟨(vp_nI (by omega)).mpr (by omega), ?_⟩⟩
        refine M_from_f gi.1 hc (by omega) hF ?_
        refine ⟨fun _ => ⟨(vp_nI (by omega)).mpr (by omega), (vp_nI (by omega)).mpr (by omega), ?_⟩, fun q => (by simp at q)⟩
        rintro S87 rfl x89 rfl
        rw [nI_1, nI_clamp (show k < 2 ^ 31 by omega), nR_at, up2_nR, upN_same]
        exact i4 Q hQ
      · rw [wX1_clearWeakPlaces_b2, gr.2.1.2.2.1.1, nI_leI (by omega) (by omega), nI_clamp (show k < 2 ^ 31 by omega), ei]
        refine ⟨fun q => absurd q (by omega), fun _ => ⟨(vp_nI (by omega)).mpr (by omega), ?_⟩⟩
        refine C_home hs1 (by omega) gr.1 ?_
        refine C_from_f gi.1 gr.1 (hvu.imp_right (fun q => q.1)) ?_
        refine ⟨fun _ => ?_, fun q => (by simp at q)⟩
        unfold wX1_clearWeakPlaces_b64
        rintro x10 rfl
        rw [nI_1]
        exact i5 Q hQ
end PEN
