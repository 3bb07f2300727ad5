/-! THE PURE PART: strong, move, keep, back -/
section PO3
variable {s b : Nat} {α : Nat → Nat → Nat} {z : Nat → Nat} {S : Nat → Nat → Int32} {n : Nat → Nat}
theorem add7 {v : Nat} (hi' : Gi s b 0 α z 0 0 (fun _ => True)) (hr : RS s 0 α z S) (h : α 0 9 < 40) (hv : VV s 0 α z v) : Gi s b 0 (upN (upN α 7 (α 0 9) v) 0 9 (α 0 9 + 1)) z 0 0 (fun _ => True) ∧ RS s 0 (upN (upN α 7 (α 0 9) v) 0 9 (α 0 9 + 1)) z (rmS S 7 (α 0 9) (nI v)) := by
  obtain ⟨hn, hs, hz, hw, hff, hl, hd, hq, hrr, hk⟩ := hi'
  obtain ⟨l1, l0, l2, l3⟩ := hl
  obtain ⟨q1, q2, q3, q4, q5⟩ := RS_item (k := 17) (i := α 0 9) (x := nI v) (by omega) (by omega) (by omega) hr
  have hr2 : RS s 0 α z (up2 S 17 (α 0 9) (nI v)) → True := fun _ => trivial
  have at7 : ∀ i, upN (upN α 7 (α 0 9) v) 0 9 (α 0 9 + 1) 7 i = if i = α 0 9 then v else α 7 i := fun i => by
    rw [upN_row _ (by omega), up_at]
  obtain ⟨rg, rl, rr, rw', rc, rm⟩ := hr
  have row : ∀ k, k ≠ 7 → k ≠ 17 → rmS S 7 (α 0 9) (nI v) k = S k := fun k h1 h2 => by
    unfold rmS
    rw [up2_row _ h1, up2_row _ h2]
  refine ⟨⟨hn, hs, hz, hw, hff, ⟨l1, h, fun i hi => ?_, l3⟩, hd, hq, hrr, hk⟩, ?_, ?_, ?_, ?_, ?_, ?_⟩
  · have hi2 : i < α 0 9 + 1 := hi
    rw [at7]
    split
    · exact hv
    · exact l2 i (by omega)
  · intro g hg
    rw [row (3 + g) (by omega) (by omega)]
    exact rg g hg
  · unfold RLs at rl ⊢
    rw [row 6 (by omega) (by omega), row 8 (by omega) (by omega), row 9 (by omega) (by omega), row 10 (by omega) (by omega), row 11 (by omega) (by omega), row 16 (by omega) (by omega), row 18 (by omega) (by omega), row 19 (by omega) (by omega), row 20 (by omega) (by omega), row 21 (by omega) (by omega)]
    refine ⟨rl.1, ⟨?_, fun i hi => ?_⟩, rl.2.2⟩
    · unfold rmS
      rw [up2_hit]
      rfl
    · have hi2 : i < α 0 9 + 1 := hi
      rw [at7]
      unfold rmS
      rw [up2_row _ (by omega), up2_get]
      by_cases e : i = α 0 9
      · rw [if_pos ⟨rfl, e⟩, if_pos e]
      · rw [if_neg (fun q => e q.2), if_neg e]
        exact rl.2.1.2 i (by omega)
  · intro k hr
    have := rrow_in (S 1 8) hr
    rw [row 1 (by omega) (by omega), row _ (by omega) (by omega), row _ (by omega) (by omega)]
    exact rr k hr
  · unfold RW at rw' ⊢
    rw [row 26 (by omega) (by omega)]
    exact rw'
  · unfold RC at rc ⊢
    rw [row 1 (by omega) (by omega)]
    exact rc
  · unfold RM at rm ⊢
    rw [row 2 (by omega) (by omega), row 27 (by omega) (by omega), row 28 (by omega) (by omega)]
    exact rm
theorem sub7 (hi' : Gi s b 0 α z 0 0 (fun _ => True)) (hr : RS s 0 α z S) : Gi s b 0 (upN α 0 9 (α 0 9 - 1)) z 0 0 (fun _ => True) ∧ RS s 0 (upN α 0 9 (α 0 9 - 1)) z (up2 S 7 1 (nI (α 0 9 - 1))) := by
  obtain ⟨hn, hs, hz, hw, hff, hl, hd, hq, hrr, hk⟩ := hi'
  obtain ⟨l1, l0, l2, l3⟩ := hl
  obtain ⟨q1, q2, q3, q4, q5⟩ := RS_item (k := 7) (i := 1) (x := nI (α 0 9 - 1)) (by omega) (by omega) (by omega) hr
  obtain ⟨r0, ⟨r1, r2⟩, r3⟩ := hr.2.1
  refine ⟨⟨hn, hs, hz, hw, hff, ⟨l1, ?_, fun i hi => ?_, l3⟩, hd, hq, hrr, hk⟩, q1, ⟨r0, ⟨rfl, fun i hi => ?_⟩, r3⟩, q2, q3, q4, q5⟩
  · show α 0 9 - 1 ≤ 40
    omega
  · have hi2 : i < α 0 9 - 1 := hi
    exact l2 i (by omega)
  · have hi2 : i < α 0 9 - 1 := hi
    exact r2 i (by omega)
theorem O_strong (hN : LN n s b) {T : Nat → Nat → Int32} (h : PV s b S T) (a1 a2 : Int32) : op_strong n a1 a2 S T (PV s b) := by
  obtain ⟨α, z, rfl, gi, gr, h29⟩ := h
  unfold op_strong wL_strong wX4_strong
  have bad : (¬ IX 8 a2 ∨ ¬ IX 16 a1) → wX5_strong a1 a2 (nR α) (fun b1 T1 => wX5_thrown T1 (fun th T2 => th = 1 ∧ ((1 : Int32) = 0 → none = some b1) ∧ PV s b S T2)) := fun hb => by
    have k : wX5_strong_b23 a1 a2 1 (nR α) (fun b1 T1 => wX5_thrown T1 (fun th T2 => th = 1 ∧ ((1 : Int32) = 0 → none = some b1) ∧ PV s b S T2)) := by
      unfold wX5_strong_b23
      rintro S4 rfl
      rw [thr0]
      exact ⟨fun q => absurd q (by decide), fun _ => ⟨rfl, fun q => absurd q (by decide), PV_thrI (t := 1) gi gr h29⟩⟩
    unfold wX5_strong
    by_cases h1 : IX 8 a2
    · refine M_in_t (k := 7) (by omega) h1 ⟨fun q => (by simp at q), fun _ => ?_⟩
      exact M_rf (hb.elim (fun q => absurd h1 q) (fun q => q)) ⟨fun _ => k, fun q => (by simp at q)⟩
    · exact M_in_f (k := 7) (by omega) h1 ⟨fun _ => k, fun q => (by simp at q)⟩
  by_cases h2 : IX 16 a1
  · refine L_rt h2 ?_
    by_cases h1 : IX 8 a2
    · refine L_wt h1 ?_
      obtain ⟨i, hi, rfl⟩ := id h1
      obtain ⟨j, hj, rfl⟩ := id h2
      rw [nI_clamp (by omega), nI_clamp (by omega), gr.2.1.2.2.1.2 i hi]
      have v16 : vp_in (nI j) (n 16) := (vp_nI (by omega)).mpr (by rw [hN.1]; exact hj)
      refine ⟨(vp_nI (by omega)).mpr (by rw [hN.2.2.1]; exact hi), v16, ?_⟩
      rintro S5 rfl
      rw [up2_hit]
      refine ⟨v16, ?_⟩
      obtain ⟨c1, c2⟩ := set6 (α := upN α 0 0 0) (k := j) (v := α 8 i) gi gr (gi.2.2.2.2.2.1.2.2.2.1 i hi)
      unfold wX5_strong wX5_strong_b23
      refine M_in_t (k := 7) (by omega) h1 ⟨fun q => (by simp at q), fun _ => ?_⟩
      refine M_rt h2 ⟨fun q => (by simp at q), fun _ => ?_⟩
      rintro S4 rfl
      rw [thr0, ← nI_0, set_thr, nI_clamp (by omega), nI_clamp (by omega)]
      have v16' : vp_in (nI j) 16 := (vp_nI (by omega)).mpr hj
      refine ⟨fun _ => ⟨(vp_nI (by omega)).mpr hi, v16', ?_⟩, fun q => absurd (nI_le (Nat.le_refl 0) (by omega)) q⟩
      rintro S10 rfl
      rw [nR_at, up2_nR, nR_at, upN_hit]
      exact ⟨v16', rfl, fun _ => rfl, _, z, rfl, c1, c2, h29⟩
    · exact L_wf h1 ⟨rfl, bad (Or.inl h1)⟩
  · exact L_rf h2 ⟨rfl, bad (Or.inr h2)⟩
theorem O_move (hN : LN n s b) {T : Nat → Nat → Int32} (h : PV s b S T) (a1 a2 : Int32) : op_move n a1 a2 S T (PV s b) := by
  obtain ⟨α, z, rfl, gi, gr, h29⟩ := h
  unfold op_move wL_move wX4_move
  have k : wX5_move_b24 a1 a2 (nR α) (fun b1 T1 => wX5_thrown T1 (fun th T2 => th = 1 ∧ ((1 : Int32) = 0 → none = some b1) ∧ PV s b S T2)) := by
    unfold wX5_move_b24 wX5_move_b25
    rintro S4 rfl
    rw [thr0]
    exact ⟨fun q => absurd q (by decide), fun _ => ⟨rfl, fun q => absurd q (by decide), PV_thrI (t := 1) gi gr h29⟩⟩
  by_cases h1 : IX 16 a1
  · refine L_rt h1 ?_
    obtain ⟨j, hj, rfl⟩ := id h1
    have v16 : vp_in (nI j) (n 16) := (vp_nI (by omega)).mpr (by rw [hN.1]; exact hj)
    have v16' : vp_in (nI j) 16 := (vp_nI (by omega)).mpr hj
    -- both go on with a value
    have fin : ∀ v, VV s 0 α z v → vp_in (nI j) (n 16) ∧ ∀ S7, S7 = up2 S 16 (nI j).toNatClampNeg (nI v) → vp_in (nI j) (n 16) ∧ ((∀ Q : Int32 → (Nat → Nat → Int32) → Prop, Q (nI v) (nR (upN (upN α 0 0 0) 6 j v)) → wX5_move_b57 (nI j) a2 (nI v) (nI j) (nR (upN α 0 0 0)) Q) ∧ S7 16 (nI j).toNatClampNeg = nI v ∧ PV s b S7 (nR (upN (upN α 0 0 0) 6 j v))) := fun v hv => by
      obtain ⟨c1, c2⟩ := set6 (α := upN α 0 0 0) (k := j) (v := v) gi gr hv
      refine ⟨v16, ?_⟩
      rintro S7 rfl
      rw [nI_clamp (by omega), up2_hit]
      refine ⟨v16, fun Q hQ => ?_, rfl, _, z, rfl, c1, c2, h29⟩
      unfold wX5_move_b57
      rw [nI_clamp (by omega), up2_nR]
      refine ⟨v16', ?_⟩
      rintro S12 rfl
      rw [nR_at, upN_hit]
      exact ⟨v16', hQ⟩
    by_cases h2 : a2 = -1
    · refine ⟨fun _ => ?_, fun q => absurd h2 q⟩
      refine ⟨fun _ => ?_, fun q => absurd h2 q⟩
      have f := fin 0 (Or.inl rfl)
      refine ⟨f.1, fun S7 e7 => ⟨(f.2 S7 e7).1, ?_⟩⟩
      obtain ⟨-, g1, g2, g3⟩ := f.2 S7 e7
      rw [g2]
      unfold wX5_move
      refine M_rt h1 ⟨fun q => (by simp at q), fun _ => ⟨fun _ => ?_, fun q => absurd h2 q⟩⟩
      unfold wX5_move_b20 wX5_move_b25
      rintro S4 rfl
      rw [thr0, ← nI_0, set_thr]
      refine ⟨fun _ => ⟨fun _ => g1 _ ⟨rfl, fun _ => rfl, g3⟩, fun q => absurd h2 q⟩, fun q => absurd (nI_le (Nat.le_refl 0) (by omega)) q⟩
    · by_cases h3 : IX 16 a2
      · refine ⟨fun q => absurd q h2, fun _ => L_rt h3 ?_⟩
        refine ⟨fun q => absurd q h2, fun _ => ?_⟩
        obtain ⟨i, hi, rfl⟩ := id h3
        rw [nI_clamp (show i < 2 ^ 31 by omega), gr.2.1.1.2 i hi]
        refine ⟨(vp_nI (by omega)).mpr (by rw [hN.1]; exact hi), ?_⟩
        have f := fin (α 6 i) (gi.2.2.2.2.2.1.1 i hi)
        refine ⟨f.1, fun S7 e7 => ⟨(f.2 S7 e7).1, ?_⟩⟩
        obtain ⟨-, g1, g2, g3⟩ := f.2 S7 e7
        rw [g2]
        unfold wX5_move
        refine M_rt h1 ⟨fun q => (by simp at q), fun _ => ⟨fun q => absurd q h2, fun _ => M_rt h3 ⟨fun q => (by simp at q), fun _ => ?_⟩⟩⟩
        unfold wX5_move_b20 wX5_move_b25
        rintro S4 rfl
        rw [thr0, ← nI_0, set_thr]
        refine ⟨fun _ => ⟨fun q => absurd q h2, fun _ => ⟨(vp_nI (by omega)).mpr hi, ?_⟩⟩, fun q => absurd (nI_le (Nat.le_refl 0) (by omega)) q⟩
        rw [nI_clamp (show i < 2 ^ 31 by omega), nR_at]
        exact g1 _ ⟨rfl, fun _ => rfl, g3⟩
      · refine ⟨fun q => absurd q h2, fun _ => L_rf h3 ⟨rfl, ?_⟩⟩
        unfold wX5_move
        exact M_rt h1 ⟨fun q => (by simp at q), fun _ => ⟨fun q => absurd q h2, fun _ => M_rf h3 ⟨fun _ => k, fun q => (by simp at q)⟩⟩⟩
  · refine L_rf h1 ⟨rfl, ?_⟩
    unfold wX5_move
    exact M_rf h1 ⟨fun _ => k, fun q => (by simp at q)⟩
theorem O_keep (hN : LN n s b) {T : Nat → Nat → Int32} (h : PV s b S T) (a1 : Int32) : op_keep n a1 S T (PV s b) := by
  obtain ⟨α, z, rfl, gi, gr, h29⟩ := h
  unfold op_keep wL_keep wX4_keep
  have h40 : α 0 9 ≤ 40 := gi.2.2.2.2.2.1.2.1
  by_cases h1 : IX 16 a1
  · refine L_rt h1 ?_
    obtain ⟨j, hj, rfl⟩ := id h1
    have v16' : vp_in (nI j) 16 := (vp_nI (by omega)).mpr hj
    unfold wX3_isFull
    rw [gr.2.1.2.1.1, show n (7 + 10) = 40 from hN.2.1, nI_eq (by omega) (by omega)]
    refine ⟨fun q => ⟨fun q2 => (by simp at q2), fun _ => Or.inr ⟨rfl, ?_⟩⟩, fun q => ⟨fun _ => ⟨(vp_nI (by omega)).mpr (by rw [hN.1]; exact hj), ?_⟩, fun q2 => (by simp at q2)⟩⟩
    · unfold wX5_keep wX5_keep_b26
      refine M_rt h1 ⟨fun q => (by simp at q), fun _ => ⟨fun _ => ?_, fun q2 => absurd (by rw [nR_at, q]; rfl) q2⟩⟩
      rintro S4 rfl
      rw [thr0]
      exact ⟨fun q => absurd q (by decide), fun _ => ⟨rfl, fun q => absurd q (by decide), PV_thrI (t := 2) gi gr h29⟩⟩
    · rw [nI_clamp (by omega), gr.2.1.1.2 j hj]
      obtain ⟨c1, c2⟩ := add7 (α := upN α 0 0 0) (v := α 6 j) gi gr (by show α 0 9 < 40; omega) (gi.2.2.2.2.2.1.1 j hj)
      refine C_add (cnt := α 0 9) gr.2.1.2.1.1 (by show α 0 9 < n 17; rw [hN.2.1]; omega) (by show n 17 < 2 ^ 20; rw [hN.2.1]; omega) ?_
      have e71 : rmS S 7 (α 0 9) (nI (α 6 j)) 7 1 = nI (α 0 9 + 1) := up2_hit _ _ _ _
      rw [e71]
      unfold wX5_keep wX5_keep_b26
      refine M_rt h1 ⟨fun q => (by simp at q), fun _ => ⟨fun q2 => ?_, fun _ => ?_⟩⟩
      · rw [nR_at, show (40 : Int32) = nI 40 from rfl, nI_eq (by omega) (by omega)] at q2
        exact absurd q2 q
      · rintro S5 rfl
        rw [thr0, ← nI_0, set_thr]
        have e9 : nR (upN α 0 0 0) 0 9 = nI (α 0 9) := rfl
        rw [e9, nI_clamp (by omega), nI_clamp (by omega)]
        refine ⟨fun _ => ⟨v16', (vp_nI (by omega)).mpr (by omega), ?_⟩, fun q => absurd (nI_le (Nat.le_refl 0) (by omega)) q⟩
        rintro S8 rfl
        rw [nR_at, up2_nR]
        rintro S10 rfl
        rw [show nR (upN (upN α 0 0 0) 7 (α 0 9) (upN α 0 0 0 6 j)) 0 9 = nI (α 0 9) from rfl, nI_1, up2_nR, nR_at, upN_hit]
        exact ⟨rfl, fun _ => rfl, _, z, rfl, c1, c2, h29⟩
  · refine L_rf h1 (Or.inl ⟨rfl, ?_⟩)
    unfold wX5_keep wX5_keep_b26
    refine M_rf h1 ⟨fun _ => ?_, fun q => (by simp at q)⟩
    rintro S4 rfl
    rw [thr0]
    exact ⟨fun q => absurd q (by decide), fun _ => ⟨rfl, fun q => absurd q (by decide), PV_thrI (t := 1) gi gr h29⟩⟩
theorem O_back (hN : LN n s b) {T : Nat → Nat → Int32} (h : PV s b S T) (a1 : Int32) : op_back n a1 S T (PV s b) := by
  obtain ⟨α, z, rfl, gi, gr, h29⟩ := h
  unfold op_back wL_back wX4_back
  have h40 : α 0 9 ≤ 40 := gi.2.2.2.2.2.1.2.1
  by_cases h1 : IX 16 a1
  · refine L_rt h1 ?_
    obtain ⟨j, hj, rfl⟩ := id h1
    have v16' : vp_in (nI j) 16 := (vp_nI (by omega)).mpr hj
    have v16 : vp_in (nI j) (n 16) := (vp_nI (by omega)).mpr (by rw [hN.1]; exact hj)
    rw [gr.2.1.2.1.1, ← nI_0, nI_eq (by omega) (by omega)]
    refine ⟨fun q => Or.inr ⟨rfl, ?_⟩, fun q => ?_⟩
    · unfold wX5_back wX5_back_b24
      refine M_rt h1 ⟨fun q => (by simp at q), fun _ => ⟨fun _ => ?_, fun q2 => absurd (by rw [nR_at, q]; rfl) q2⟩⟩
      rintro S4 rfl
      rw [thr0]
      exact ⟨fun q => absurd q (by decide), fun _ => ⟨rfl, fun q => absurd q (by decide), PV_thrI (t := 2) gi gr h29⟩⟩
    · obtain ⟨c1, c2⟩ := sub7 (α := upN α 0 0 0) gi gr
      have hvv : VV s 0 α z (α 7 (α 0 9 - 1)) := gi.2.2.2.2.2.1.2.2.1 _ (by omega)
      obtain ⟨d1, d2⟩ := set6 (k := j) (v := α 7 (α 0 9 - 1)) c1 c2 hvv
      unfold wX3_takeLast
      rw [gr.2.1.2.1.1, ← nI_0, nI_eq (by omega) (by omega)]
      refine ⟨fun q2 => absurd q2 q, fun _ => ?_⟩
      rw [show (1 : Int32) = nI 1 from rfl, pk_sub (by omega)]
      rintro S2 rfl
      rw [up2_hit, nI_clamp (by omega)]
      refine ⟨(vp_nI (by omega)).mpr (by show α 0 9 - 1 < n 17; rw [hN.2.1]; omega), v16, ?_⟩
      rw [up2_row _ (show 7 + 10 ≠ 7 by omega), nI_clamp (show α 0 9 - 1 < 2 ^ 31 by omega), show S (7 + 10) (α 0 9 - 1) = nI (α 7 (α 0 9 - 1)) from gr.2.1.2.1.2 _ (by omega)]
      rintro S6 rfl
      rw [up2_hit]
      refine ⟨v16, ?_⟩
      unfold wX5_back wX5_back_b24
      refine M_rt h1 ⟨fun q => (by simp at q), fun _ => ⟨fun q2 => ?_, fun _ => ?_⟩⟩
      · rw [nR_at, ← nI_0, nI_eq (by omega) (by omega)] at q2
        exact absurd q2 q
      · rintro S5 rfl
        rw [thr0, ← nI_0, set_thr]
        have e9 : nR (upN α 0 0 0) 0 9 = nI (α 0 9) := rfl
        rw [e9, nI_clamp (by omega), show (1 : Int32) = nI 1 from rfl, pk_sub (by omega), up2_nR]
        refine ⟨fun _ => ?_, fun q => absurd (nI_le (Nat.le_refl 0) (by omega)) q⟩
        rintro S8 rfl
        rw [nR_at, upN_hit, nI_clamp (by omega)]
        refine ⟨(vp_nI (by omega)).mpr (by omega), v16', ?_⟩
        rintro S10 rfl
        rw [nR_at, up2_nR, nR_at, upN_hit]
        exact ⟨v16', rfl, fun _ => rfl, _, z, rfl, d1, d2, h29⟩
  · refine L_rf h1 (Or.inl ⟨rfl, ?_⟩)
    unfold wX5_back wX5_back_b24
    refine M_rf h1 ⟨fun _ => ?_, fun q => (by simp at q)⟩
    rintro S4 rfl
    rw [thr0]
    exact ⟨fun q => absurd q (by decide), fun _ => ⟨rfl, fun q => absurd q (by decide), PV_thrI (t := 1) gi gr h29⟩⟩
end PO3
