/-! THE PURE PART: what was copied is scanned -/
theorem up2_mis' {S : Nat → Nat → Int32} {k f i : Nat} {x : Int32} (j : Nat) (h : i ≠ f) : up2 S k f x j i = S j i := by rw [up2_get, if_neg (fun q => h q.2)]
section PSC
variable {s b c lo hi ns nr nq : Nat} {n : Nat → Nat} {β : Nat → Nat → Nat}
def KS (s : Nat) (β : Nat → Nat → Nat) (h22 : Nat → Nat) (x : Nat) : Prop := x < hb s (aG s x) (β 4 (aG s x)) + h22 (aG s x)
theorem C_ls {α : Nat → Nat → Nat} {S : Nat → Nat → Int32} (hn : Gn s b c α) (hr : RG s c α S) {Q : Option Nat → (Nat → Nat → Int32) → Prop} (hq : ∀ k, k < 3 → (∀ j, j < k → α 22 j = α 5 j) → α 22 k ≠ α 5 k → Q (some k) S) (hq0 : (∀ j, j < 3 → α 22 j = α 5 j) → Q none S) : ∀ m k, k + m = 3 → (∀ j, j < k → α 22 j = α 5 j) → wX1_leastUnscanned_b2 n (m + 1) (nI k) S Q
  | 0, k, e, hk => by
    rw [wX1_leastUnscanned_b2, show (3 : Int32) = nI 3 from rfl, nI_leI (by omega) (by omega)]
    exact ⟨fun _ => hq0 (fun j hj => hk j (by omega)), fun q => absurd (show 3 ≤ k by omega) q⟩
  | m + 1, k, e, hk => by
    have hs1 := hn.1.2.1
    have h5 := hn.2.1 k (by omega)
    have hz := sz_lt (g := k) hs1
    have hu : α 5 k ≤ 512 := by
      have := h5.2.1
      omega
    obtain ⟨-, -, -, -, -, r5, -, -, r8, -⟩ := hr k (by omega)
    rw [wX1_leastUnscanned_b2, show (3 : Int32) = nI 3 from rfl, nI_leI (by omega) (by omega), nI_clamp (by omega), r5, r8, nI_leI (by omega) (by omega)]
    refine ⟨fun q => absurd q (by omega), fun _ => ⟨(vp_nI (by omega)).mpr (by omega), (vp_nI (by omega)).mpr (by omega), fun q => ?_, fun q => ⟨(vp_nI (by omega)).mpr (by omega), hq k (by omega) hk (by omega)⟩⟩⟩
    rintro x6 rfl
    rw [nI_1]
    refine C_ls hn hr hq hq0 m (k + 1) (by omega) (fun j hj => ?_)
    by_cases e2 : j = k
    · rw [e2]; omega
    · exact hk j (by omega)
theorem M_ls {α : Nat → Nat → Nat} (hn : Gn s b c α) {Q : Unit → (Nat → Nat → Int32) → Prop} {f g : Nat} (hg : g ≤ 3) (hk : ∀ j, j < g → α 22 j = α 5 j) (h : wX5_scan_b2 f (nI g) (nR α) Q) : ∀ m k, k + m = g → wX5_scan_b2 (f + m) (nI k) (nR α) Q
  | 0, k, e => by
    rw [show k = g by omega]
    exact h
  | m + 1, k, e => by
    have hs1 := hn.1.2.1
    have h5 := hn.2.1 k (by omega)
    have hz := sz_lt (g := k) hs1
    have hu : α 5 k ≤ 512 := by
      have := h5.2.1
      omega
    rw [← Nat.add_assoc, wX5_scan_b2, show (3 : Int32) = nI 3 from rfl, nI_leI (by omega) (by omega), nI_clamp (by omega), nR_at, nR_at, nI_eq (by omega) (by omega)]
    refine ⟨fun q => absurd q (by omega), fun _ => ⟨(vp_nI (by omega)).mpr (by omega), (vp_nI (by omega)).mpr (by omega), fun _ => ?_, fun q => absurd (hk k (by omega)) q⟩⟩
    rintro x4 rfl
    rw [nI_1]
    exact M_ls hn hg hk h m (k + 1) (by omega)
theorem L_obj {h22 : Nat → Nat} {o m0 g : Nat} (hc : 0 < c) (hN : LN n s b) (hg3 : g < 3) (hgo : aG s o = g) : ∀ m f (α : Nat → Nat → Nat) (z : Nat → Nat) (S : Nat → Nat → Int32), f + m = o + m0 → o + 2 ≤ f → OU s α z o → z o = m0 → IG s b c α z S lo hi (fun x => KS s β h22 x ∨ (o + 2 ≤ x ∧ x < f)) β h22 nr ns nq → ∃ α' z' S', IG s b c α' z' S' lo hi (fun x => KS s β h22 x ∨ (o + 2 ≤ x ∧ x < o + m0)) β h22 nr ns nq ∧ OU s α' z' o ∧ z' o = m0 ∧ α' 0 14 = α 0 14 ∧ (∀ (Q : Unit → (Nat → Nat → Int32) → Prop) (K2 : Int32 → (Nat → Nat → Int32) → Prop), K2 0 (nR (upN α' 22 g (α' 22 g + m0))) → wX5_scan_b58 K2 (m + 1) (nI f) (nI (m0 - 2)) (nI o) (nI g) (nR α) Q) ∧ (∀ (Q : Unit → (Nat → Nat → Int32) → Prop) (K2 : Int32 → (Nat → Nat → Int32) → Prop) (d : Nat), K2 (nI (d + 1)) (up2 S' (3 + g) 8 (nI (α' 22 g + m0))) → wX1_scan_b47 n K2 (m + 1) (nI f) (nI (o + m0)) (nI o) g (nI d) S Q)
  | 0, f, α, z, S, e, hf, hU, hz, hg => by
    have hl := U_lt hg.1.1 hU.1
    have hs1 := hg.1.1.1.2.1
    have hp := OU_pz hg.1.2.2.1 hU
    refine ⟨α, z, S, ?_, hU, hz, rfl, fun Q K2 hQ => ?_, fun Q K2 d hQ => ?_⟩
    · have e2 : f = o + m0 := by omega
      rw [e2] at hg
      exact hg
    · rw [wX5_scan_b58, show (2 : Int32) = nI 2 from rfl, nI_add, nI_add, nI_leI (by omega) (by omega), nI_clamp (by omega)]
      refine ⟨fun _ => ⟨(vp_nI (by omega)).mpr (by omega), (vp_nI (by omega)).mpr (by omega), ?_⟩, fun q => absurd (show o + 2 + (m0 - 2) ≤ f by omega) q⟩
      rintro S16 rfl
      rw [nR_at, nI_add, nI_add, up2_nR, show α 22 g + (m0 - 2) + 2 = α 22 g + m0 by omega]
      exact hQ
    · have r8 := (hg.2.2.1.1 g hg3).2.2.2.2.2.2.2.2.1
      rw [wX1_scan_b47, nI_leI (by omega) (by omega), r8, pk_sub (by omega), nI_add, show o + m0 - o = m0 by omega]
      refine ⟨fun _ => ?_, fun q => absurd (show o + m0 ≤ f by omega) q⟩
      rintro S17 rfl x19 rfl
      rw [nI_1]
      exact hQ
  | m + 1, f, α, z, S, e, hf, hU, hz, ⟨gi, gk, gr, gx, gp⟩ => by
    have hl := U_lt gi.1 hU.1
    have hs1 := gi.1.1.2.1
    have hp := OU_pz gi.2.2.1 hU
    have hn26 : n 26 = 1 + 14 * s := hN.2.2.2.2.2.2.2.2.2.2.1
    have hfu : FU s α z f := ⟨o, hU, hf, by omega⟩
    have hfl := U_lt gi.1 (FU_in gi.1 gi.2.2.1 hfu).1
    obtain ⟨α1, z1, S1, a1, a2, a3, a4, a5⟩ := J_field gi gk hc gr hN hfu
    have w26 : S 26 f = nI (α 1 f) := gr.2.2.2.1.2 _ (Or.inl (FU_in gi.1 gi.2.2.1 hfu).1) (fun q => UF_no gi.1 (FU_in gi.1 gi.2.2.1 hfu).1 q.1.1)
    have gi2 := Gi_K (K' := fun x => KS s β h22 x ∨ (o + 2 ≤ x ∧ x < f + 1)) a1 (fun x h _ => by
      rcases h with h | h
      · exact Or.inl (Or.inl h)
      · by_cases ex : x = f
        · exact Or.inr ex
        · exact Or.inl (Or.inr ⟨h.1, by omega⟩))
    have hU1 := a5.1 o hU
    have hz1 : z1 o = m0 := by rw [(a5.2.2.1 o (Or.inl hU.1)).1, hz]
    have x1 := FRG_EX gi.1 a5 gx
    have k1 : ∀ x, KS s β h22 x ∨ (o + 2 ≤ x ∧ x < f + 1) → x < st s α1 (aG s x) + α1 5 (aG s x) := fun x h => by
      rcases h with h | h
      · exact bd_of gi2.1 x1 h
      · have q := (OU_in (i := x - o) gi2.1 gi2.2.2.1 hU1 (by omega)).2
        rw [show o + (x - o) = x by omega] at q
        exact q.2
    obtain ⟨α2, z2, S2, i1, i2, i3, i4, i5, i6⟩ := L_obj hc hN hg3 hgo m (f + 1) α1 z1 S1 (by omega) (by omega) hU1 hz1 ⟨gi2, k1, a2, x1, FRG_PRG a5 gp⟩
    refine ⟨α2, z2, S2, i1, i2, i3, i4.trans (a5.2.2.2.2.1 14 (by omega) (by omega)), fun Q K2 hQ => ?_, fun Q K2 d hQ => ?_⟩
    · rw [wX5_scan_b58, show (2 : Int32) = nI 2 from rfl, nI_add, nI_add, nI_leI (by omega) (by omega), nI_clamp (show f < 2 ^ 31 by omega)]
      refine ⟨fun q => absurd q (by omega), fun _ => ⟨(vp_nI (by omega)).mpr (by omega), ?_⟩⟩
      have := a3 (fun T => wX5_scan_b58 K2 (m + 1) (nI (f + 1)) (nI (m0 - 2)) (nI o) (nI g) T Q) (i5 Q K2 hQ)
      simp only [nI_1, forall_eq] at this ⊢
      exact this
    · rw [wX1_scan_b47, nI_leI (by omega) (by omega), nI_clamp (show f < 2 ^ 31 by omega), w26]
      refine ⟨fun q => absurd q (by omega), fun _ => ⟨(vp_nI (by omega)).mpr (by omega), ?_⟩⟩
      have := a4 (fun T => wX1_scan_b47 n K2 (m + 1) (nI (f + 1)) (nI (o + m0)) (nI o) g (nI d) T Q) (i6 Q K2 d hQ)
      simp only [nI_1, forall_eq] at this ⊢
      exact this
/-- an object is through: the scan's place goes on -/
theorem sc_next {h22 : Nat → Nat} {α : Nat → Nat → Nat} {z : Nat → Nat} {S : Nat → Nat → Int32} {o m0 g : Nat} (hg3 : g < 3) (hgo : aG s o = g) (ho : o = hb s g (β 4 g) + h22 g) (hU : OU s α z o) (hz : z o = m0) (hg : IG s b c α z S lo hi (fun x => KS s β h22 x ∨ (o + 2 ≤ x ∧ x < o + m0)) β h22 nr ns nq) : IG s b c (upN α 22 g (α 22 g + m0)) z (up2 S (3 + g) 8 (nI (α 22 g + m0))) lo hi (KS s β (fun k => if k = g then h22 g + m0 else h22 k)) β (fun k => if k = g then h22 g + m0 else h22 k) nr ns nq := by
  obtain ⟨gi, gk, gr, gx, gp⟩ := hg
  have gi0 := gi
  obtain ⟨hn, hs, hz', hw, hff, hl, hd, hq, hrr, hk⟩ := gi
  have hp := OU_pz hz' hU
  have e4 : st s α g = hb s g (β 4 g) := by unfold st; rw [gx.2.2.1.1]
  have e22 : α 22 = h22 := gx.2.2.1.2.2.2
  have hend : α 22 g + m0 ≤ α 5 g := by
    rw [hgo, e4] at hp
    rw [e22]
    omega
  have at22 : ∀ k, upN α 22 g (α 22 g + m0) 22 k = if k = g then α 22 g + m0 else α 22 k := fun k => up_at
  have gn2 : Gn s b c (upN α 22 g (α 22 g + m0)) := by
    refine ⟨hn.1, fun k hk3 => ?_, hn.2.2⟩
    have q := hn.2.1 k hk3
    refine ⟨q.1, q.2.1, ?_⟩
    rw [at22]
    show _ ≤ α 5 k
    split
    · rename_i e
      rw [e]
      exact hend
    · exact q.2.2
  have hKx : ∀ x, KS s β (fun k => if k = g then h22 g + m0 else h22 k) x → FU s α z x → KS s β h22 x ∨ (o + 2 ≤ x ∧ x < o + m0) := fun x h hx => by
    unfold KS at h ⊢
    have h : x < hb s (aG s x) (β 4 (aG s x)) + (if aG s x = g then h22 g + m0 else h22 (aG s x)) := h
    by_cases e : aG s x = g
    · rw [if_pos e, e] at h
      rw [e]
      by_cases q : x < hb s g (β 4 g) + h22 g
      · exact Or.inl q
      · refine Or.inr ⟨?_, by omega⟩
        obtain ⟨o', p1, p2, p3⟩ := hx
        have := OU_one hn hz' hU p1 (f := x) (by omega) (by omega) (by omega) p3
        omega
    · rw [if_neg e] at h
      exact Or.inl h
  have gx2 : EX s c (upN α 22 g (α 22 g + m0)) z (up2 S (3 + g) 8 (nI (α 22 g + m0))) β (fun k => if k = g then h22 g + m0 else h22 k) := by
    obtain ⟨x1, x2, ⟨x3, x4, x5, x6⟩, x7⟩ := gx
    refine ⟨fun k hk3 hlt => ?_, fun r hr => ?_, ⟨x3, x4, x5, ?_⟩, x7⟩
    · rw [at22] at hlt ⊢
      show z (st s α k + _) ≠ 0
      have hlt' : (if k = g then α 22 g + m0 else α 22 k) < α 5 k := hlt
      by_cases e : k = g
      · rw [if_pos e] at hlt' ⊢
        have q := (hz'.1 g hg3).1 o (by rw [e4]; omega) (by rw [e4, e22] at *; rw [e] at hlt'; omega) hU.2
        have q2 := q.2.2.2.1 (by rw [e4, e22] at *; rw [e] at hlt'; omega)
        rw [e, e4, e22, ← Nat.add_assoc, ← ho, ← hz]
        exact q2
      · rw [if_neg e] at hlt' ⊢
        exact x1 k hk3 hlt'
    · have := rrow_in (S 1 9) hr
      rw [up2_row _ (show 1 ≠ 3 + g by omega), up2_row _ (show rrow (S 1 9) r ≠ 3 + g by omega), up2_row _ (show rrow (S 1 9) r + 10 ≠ 3 + g by omega)]
      exact x2 r hr
    · funext k
      rw [at22, x6]
  refine ⟨⟨gn2, hs, hz', hw, hff, hl, hd, hq, hrr, fun x h1 h2 => hk x (hKx x h1 h2) h2⟩, fun x h => bd_of gn2 gx2 h, ?_, gx2, gp⟩
  obtain ⟨rg, rl, rr, rw', rc, rm⟩ := gr
  have row : ∀ j, j ≠ 3 + g → up2 S (3 + g) 8 (nI (α 22 g + m0)) j = S j := fun j h1 => up2_row _ h1
  refine ⟨?_, ?_, ?_, ?_, ?_, ?_⟩
  · intro k hk3
    have q := rg k hk3
    rw [at22]
    obtain ⟨q0, q1, q2, q3, q4, q5, q6, q7, q8, q9⟩ := q
    have mm : ∀ i, i ≠ 8 → up2 S (3 + g) 8 (nI (α 22 g + m0)) (3 + k) i = S (3 + k) i := fun i hi => up2_mis' _ hi
    rw [mm 0 (by omega), mm 1 (by omega), mm 2 (by omega), mm 3 (by omega), mm 4 (by omega), mm 5 (by omega), mm 6 (by omega), mm 7 (by omega), mm 9 (by omega)]
    refine ⟨q0, q1, q2, q3, q4, q5, q6, q7, ?_, q9⟩
    rw [up2_get]
    by_cases e : k = g
    · rw [if_pos ⟨by rw [e], rfl⟩, if_pos e]
    · rw [if_neg (by omega), if_neg e, q8]
  · unfold RLs at rl ⊢
    rw [row 6 (by omega), row 7 (by omega), row 8 (by omega), row 9 (by omega), row 10 (by omega), row 11 (by omega), row 16 (by omega), row 17 (by omega), row 18 (by omega), row 19 (by omega), row 20 (by omega), row 21 (by omega)]
    exact rl
  · intro r hr
    have := rrow_in (S 1 8) hr
    rw [row 1 (by omega), row _ (by omega), row _ (by omega)]
    exact rr r hr
  · unfold RW at rw' ⊢
    rw [row 26 (by omega)]
    exact rw'
  · unfold RC at rc ⊢
    rw [row 1 (by omega)]
    exact rc
  · unfold RM at rm ⊢
    rw [row 2 (by omega), row 27 (by omega), row 28 (by omega)]
    exact rm
end PSC
