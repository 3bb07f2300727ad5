/-! THE PURE PART: both store -/
section PSR
variable {s b : Nat} {α : Nat → Nat → Nat} {z : Nat → Nat} {S : Nat → Nat → Int32} {n : Nat → Nat}
theorem add11 {f : Nat} (hi' : Gi s b 0 α z 0 0 (fun x => x ≠ f)) (hr : RS s 0 α z S) (hb : α 0 16 < b) (hf : FU s α z f) : Gi s b 0 (upN (upN α 11 (α 0 16) f) 0 16 (α 0 16 + 1)) z 0 0 (fun _ => True) ∧ RS s 0 (upN (upN α 11 (α 0 16) f) 0 16 (α 0 16 + 1)) z (rmS S 11 (α 0 16) (nI f)) := by
  obtain ⟨hn, hs, hz, hw, hff, hl, hd, hq, hrr, hk⟩ := hi'
  obtain ⟨rg, rl, rr, rw', rc, rm⟩ := hr
  have at11 : ∀ i, upN (upN α 11 (α 0 16) f) 0 16 (α 0 16 + 1) 11 i = if i = α 0 16 then f else α 11 i := fun i => by
    rw [upN_row _ (by omega), up_at]
  have row : ∀ k, k ≠ 11 → k ≠ 21 → rmS S 11 (α 0 16) (nI f) k = S k := fun k h1 h2 => by
    unfold rmS
    rw [up2_row _ h1, up2_row _ h2]
  refine ⟨⟨hn, hs, hz, hw, hff, hl, hd, ⟨?_, fun i hi => ?_⟩, hrr, fun x _ hx => ⟨(FU_in hn hz hx).1.2, ?_⟩⟩, ?_, ?_, ?_, ?_, ?_, ?_⟩
  · show α 0 16 + 1 ≤ b
    omega
  · have hi2 : i < α 0 16 + 1 := hi
    rw [at11]
    split
    · exact hf
    · exact hq.2 i (by omega)
  · by_cases e : x = f
    · rw [e]
      rcases VV_0 (FU_V hw hf) with q | q
      · exact Or.inl q
      · refine Or.inr ⟨q, fun _ => Or.inr ⟨α 0 16, ?_, ?_⟩⟩
        · show α 0 16 < α 0 16 + 1
          omega
        · rw [at11, if_pos rfl]
    · rcases (hk x e hx).2 with q | ⟨q1, q2⟩
      · exact Or.inl q
      · refine Or.inr ⟨q1, fun q3 => ?_⟩
        rcases q2 q3 with q4 | ⟨i, q5, q6⟩
        · exact Or.inl q4
        · refine Or.inr ⟨i, ?_, ?_⟩
          · show i < α 0 16 + 1
            omega
          · rw [at11, if_neg (by omega)]
            exact q6
  · intro g hg
    rw [row (3 + g) (by omega) (by omega)]
    exact rg g hg
  · unfold RLs at rl ⊢
    rw [row 6 (by omega) (by omega), row 7 (by omega) (by omega), row 8 (by omega) (by omega), row 9 (by omega) (by omega), row 10 (by omega) (by omega), row 16 (by omega) (by omega), row 17 (by omega) (by omega), row 18 (by omega) (by omega), row 19 (by omega) (by omega), row 20 (by omega) (by omega)]
    refine ⟨rl.1, rl.2.1, rl.2.2.1, rl.2.2.2.1, rl.2.2.2.2.1, ?_, fun i hi => ?_⟩
    · unfold rmS
      rw [up2_hit]
      rfl
    · have hi2 : i < α 0 16 + 1 := hi
      rw [at11]
      unfold rmS
      rw [up2_row _ (by omega), up2_get]
      by_cases e : i = α 0 16
      · rw [if_pos ⟨rfl, e⟩, if_pos e]
      · rw [if_neg (fun q => e q.2), if_neg e]
        exact rl.2.2.2.2.2.2 i (by omega)
  · intro k hr
    have := rrow_in (S 1 8) hr
    rw [row 1 (by omega) (by omega), row _ (by omega) (by omega), row _ (by omega) (by omega)]
    exact rr k hr
  · unfold RW at rw' ⊢
    rw [row 26 (by omega) (by omega)]
    exact rw'
  · unfold RC at rc ⊢
    rw [row 1 (by omega) (by omega)]
    exact rc
  · unfold RM at rm ⊢
    rw [row 2 (by omega) (by omega), row 27 (by omega) (by omega), row 28 (by omega) (by omega)]
    exact rm
theorem ovf_RS (hr : RS s 0 α z S) : RS s 0 (upN α 0 23 (α 0 23 + 1)) z (up2 S 1 10 (S 1 10 + 1)) := by
  obtain ⟨rg, rl, rr, rw', rc, rm⟩ := hr
  have row : ∀ k, k ≠ 1 → up2 S 1 10 (S 1 10 + 1) k = S k := fun k h1 => up2_row _ h1
  have one : ∀ i, i ≠ 10 → up2 S 1 10 (S 1 10 + 1) 1 i = S 1 i := fun i hi => up2_mis _ _ hi
  refine ⟨?_, ?_, ?_, ?_, ?_, ?_⟩
  · intro g hg
    rw [row (3 + g) (by omega)]
    exact rg g hg
  · unfold RLs at rl ⊢
    rw [row 6 (by omega), row 7 (by omega), row 8 (by omega), row 9 (by omega), row 10 (by omega), row 11 (by omega), row 16 (by omega), row 17 (by omega), row 18 (by omega), row 19 (by omega), row 20 (by omega), row 21 (by omega)]
    exact rl
  · intro k hr
    have := rrow_in (S 1 8) hr
    rw [one 8 (by omega), row _ (by omega), row _ (by omega)]
    exact rr k hr
  · unfold RW at rw' ⊢
    rw [row 26 (by omega)]
    exact rw'
  · obtain ⟨c1, c2, c3, c4⟩ := rc
    unfold RC
    rw [one 8 (by omega), one 9 (by omega), one 11 (by omega), one 12 (by omega), up2_hit, c1, nI_1]
    exact ⟨rfl, c2, c3, c4⟩
  · unfold RM at rm ⊢
    rw [row 2 (by omega), row 27 (by omega), row 28 (by omega)]
    exact rm
theorem J_store {f v : Nat} (hN : LN n s b) (hi' : Gi s b 0 α z 0 0 (fun _ => True)) (hr : RS s 0 α z S) (hf : FU s α z f) (hv : VV s 0 α z v) : ∃ α' S', Gi s b 0 α' z 0 0 (fun _ => True) ∧ RS s 0 α' z S' ∧ FS0 α α' ∧ (∀ x, OU s α z x → OU s α' z x) ∧ (∀ Q : Unit → (Nat → Nat → Int32) → Prop, Q () (nR α') → wX5_store (nI f) (nI v) (nR α) Q) ∧ (∀ (o i : Int32) (Q : Unit → (Nat → Nat → Int32) → Prop), (o + 2) + i = nI f → Q () S' → wX1_store n o i (nI v) S Q) := by
  have hn := hi'.1
  have hs1 := hn.1.2.1
  have hb64 := hn.1.2.2.2.2.2.2.1
  have hb2 := hn.1.2.2.2.2.2.1
  have hfl := U_lt hn (FU_in hn hi'.2.2.1 hf).1
  have hvl := VV_lt hn hv
  have hn26 : n 26 = 1 + 14 * s := hN.2.2.2.2.2.2.2.2.2.2.1
  have hn21 : n 21 = b := hN.2.2.2.2.2.1
  obtain ⟨p1, p2⟩ := J_put (Gi_K (K' := fun x => x ≠ f) hi' (fun x _ _ => trivial)) hr hf hv (fun x h => h)
  have hf1 : FU s (upN α 1 f v) z f := hf
  have e16 : upN α 1 f v 0 16 = α 0 16 := rfl
  have e05 : upN α 1 f v 0 5 = b := hn.1.2.2.2.2.1
  have hq16 : α 0 16 ≤ b := hi'.2.2.2.2.2.2.2.1.1
  have mod : ∀ Q : Unit → (Nat → Nat → Int32) → Prop, (v = 0 → Q () (nR (upN α 1 f v))) → (v ≠ 0 → α 0 16 = b → wX5_filter (nR (upN (upN α 1 f v) 0 23 (α 0 23 + 1))) (fun _ S8 => wX5_store_b37 (nI f) (nI v) S8 Q)) → (v ≠ 0 → α 0 16 ≠ b → wX5_store_b37 (nI f) (nI v) (nR (upN α 1 f v)) Q) → wX5_store (nI f) (nI v) (nR α) Q := by
    intro Q h1 h2 h3
    unfold wX5_store
    rw [nI_clamp (by omega), up2_nR]
    refine ⟨(vp_nI (by omega)).mpr (by omega), ?_⟩
    rintro S1 rfl
    rw [← nI_0, nI_eq (by omega) (by omega), nR_at, nR_at, e16, e05, nI_eq (by omega) (by omega)]
    refine ⟨h1, fun q => ⟨fun q2 => ?_, fun q2 => h3 q q2⟩⟩
    rintro S5 rfl
    rw [nR_at, show upN α 1 f v 0 23 = α 0 23 from rfl, nI_1, up2_nR]
    exact h2 q q2
  have cla : ∀ (o i : Int32) (Q : Unit → (Nat → Nat → Int32) → Prop), (o + 2) + i = nI f → (v = 0 → Q () (up2 S 26 f (nI v))) → (v ≠ 0 → α 0 16 = b → wX1_filter n (up2 (up2 S 26 f (nI v)) 1 10 (up2 S 26 f (nI v) 1 10 + 1)) (fun _ S12 => wX3_add n 11 (nI f) S12 (fun _ S14 => Q () S14))) → (v ≠ 0 → α 0 16 ≠ b → wX3_add n 11 (nI f) (up2 S 26 f (nI v)) (fun _ S14 => Q () S14)) → wX1_store n o i (nI v) S Q := by
    intro o i Q ho h1 h2 h3
    have e11 : up2 S 26 f (nI v) 11 1 = nI (α 0 16) := p2.2.1.2.2.2.2.2.1
    unfold wX1_store wX3_isFull wX1_store_b44
    rw [ho]
    rintro x1 rfl
    rw [nI_clamp (by omega)]
    refine ⟨(vp_nI (by omega)).mpr (by omega), ?_⟩
    rintro S3 rfl
    rw [← nI_0, nI_eq (by omega) (by omega), e11, show n (11 + 10) = b from hn21, nI_eq (by omega) (by omega)]
    refine ⟨h1, fun q => ⟨fun q2 => ⟨fun q3 => (by simp at q3), fun _ => ?_⟩, fun q2 => ⟨fun _ => h3 q q2, fun q3 => (by simp at q3)⟩⟩⟩
    rintro S9 rfl
    exact h2 q q2
  have b37 : ∀ (α1 : Nat → Nat → Nat) (Q : Unit → (Nat → Nat → Int32) → Prop), α1 0 16 < 64 → Q () (nR (upN (upN α1 11 (α1 0 16) f) 0 16 (α1 0 16 + 1))) → wX5_store_b37 (nI f) (nI v) (nR α1) Q := by
    intro α1 Q h1 h2
    unfold wX5_store_b37
    rw [nR_at, nI_clamp (by omega), up2_nR]
    refine ⟨(vp_nI (by omega)).mpr h1, ?_⟩
    rintro S9 rfl S11 rfl
    rw [nR_at, show upN α1 11 (α1 0 16) f 0 16 = α1 0 16 from rfl, nI_1, up2_nR]
    exact h2
  by_cases hv0 : v = 0
  · refine ⟨upN α 1 f v, up2 S 26 f (nI v), ?_, p2, ⟨rfl, rfl, rfl⟩, fun x h => h, fun Q hQ => mod Q (fun _ => hQ) (fun q => absurd hv0 q) (fun q => absurd hv0 q), fun o i Q ho hQ => cla o i Q ho (fun _ => hQ) (fun q => absurd hv0 q) (fun q => absurd hv0 q)⟩
    obtain ⟨hn', hs, hz, hw, hff, hl, hd, hq, hrr, hk⟩ := p1
    refine ⟨hn', hs, hz, hw, hff, hl, hd, hq, hrr, fun x _ hx => ?_⟩
    by_cases e : x = f
    · refine ⟨(FU_in hn' hz hx).1.2, Or.inl ?_⟩
      rw [e, upN_hit, hv0]
    · exact hk x e hx
  · by_cases hfull : α 0 16 = b
    · have p1' : Gi s b 0 (upN (upN α 1 f v) 0 23 (α 0 23 + 1)) z 0 0 (fun x => x ≠ f) := p1
      have p2' := ovf_RS p2
      obtain ⟨α3, S3, i1, i2, i3, i4, i5, i6⟩ := J_filt hN p1' p2'
      have e4 : α3 4 = α 4 := i6.1 4 (by omega) (by omega) (by omega)
      have e5 : α3 5 = α 5 := i6.1 5 (by omega) (by omega) (by omega)
      have hOU : ∀ x, OU s α z x → OU s α3 z x := fun x h => by
        unfold OU inU st at h ⊢
        rw [e4, e5]
        exact h
      have hf3 : FU s α3 z f := by
        obtain ⟨o, h1, h2, h3⟩ := hf
        exact ⟨o, hOU o h1, h2, h3⟩
      obtain ⟨j1, j2⟩ := add11 i1 i3 (by omega) hf3
      refine ⟨_, _, j1, j2, ⟨i6.2.1 0 (by omega), i6.2.1 27 (by omega), i6.2.1 29 (by omega)⟩, hOU, fun Q hQ => mod Q (fun q => absurd q hv0) (fun _ _ => i4 _ (b37 α3 Q (by omega) hQ)) (fun _ q => absurd hfull q), fun o i Q ho hQ => cla o i Q ho (fun q => absurd q hv0) (fun _ _ => i5 _ ?_) (fun _ q => absurd hfull q)⟩
      refine C_add (cnt := α3 0 16) i3.2.1.2.2.2.2.2.1 ?_ ?_ hQ
      · show α3 0 16 < n 21
        omega
      · show n 21 < 2 ^ 20
        omega
    · obtain ⟨j1, j2⟩ := add11 p1 p2 (by show α 0 16 < b; omega) hf1
      refine ⟨_, _, j1, j2, ⟨rfl, rfl, rfl⟩, fun x h => h, fun Q hQ => mod Q (fun q => absurd q hv0) (fun _ q => absurd q hfull) (fun _ _ => b37 _ Q (by show α 0 16 < 64; omega) hQ), fun o i Q ho hQ => cla o i Q ho (fun q => absurd q hv0) (fun _ q => absurd q hfull) (fun _ _ => ?_)⟩
      refine C_add (cnt := α 0 16) p2.2.1.2.2.2.2.2.1 ?_ ?_ hQ
      · show α 0 16 < n 21
        omega
      · show n 21 < 2 ^ 20
        omega
end PSR
