/-! THE PURE PART: get and put -/
section PO4
variable {s b : Nat} {α : Nat → Nat → Nat} {z : Nat → Nat} {S : Nat → Nat → Int32} {n : Nat → Nat}
theorem root_o (hi' : Gi s b 0 α z 0 0 (fun _ => True)) {j : Nat} (hj : j < 16) (h0 : α 6 j ≠ 0) : OU s α z (α 6 j) := (VV_0 (hi'.2.2.2.2.2.1.1 j hj)).elim (fun q => absurd q h0) (fun q => q)
theorem w26 (hn : Gn s b 0 α) (hr : RS s 0 α z S) {x : Nat} (h : inU s α x) : S 26 x = nI (α 1 x) := hr.2.2.2.1.2 x (Or.inl h) (fun q => no_OF rfl q.1)
theorem C_hf {o : Nat} {a : Int32} (hi' : Gi s b 0 α z 0 0 (fun _ => True)) (hr : RS s 0 α z S) (hN : LN n s b) (ho : OU s α z o) {Q : Bool → (Nat → Nat → Int32) → Prop} (ht : IX (α 1 o % 8) a → Q true S) (hf : ¬ IX (α 1 o % 8) a → Q false S) : wX1_hasField n (nI o) a S Q := by
  have hol := U_lt hi'.1 ho.1
  have hs1 := hi'.1.1.2.1
  have hw := (hi'.2.2.2.1 o (Or.inl ho)).1.2
  have hn26 : n 26 = 1 + 14 * s := hN.2.2.2.2.2.2.2.2.2.2.1
  have no : a < 0 → ¬ IX (α 1 o % 8) a := fun q => by
    rintro ⟨i, hi, rfl⟩
    exact absurd q (nI_pos (by omega))
  refine ⟨fun q => hf (no q), fun q => ?_⟩
  obtain ⟨i, hi, rfl⟩ := nI_of q
  refine C_fieldsOf (w := α 1 o) (by omega) (by omega) (w26 hi'.1 hr ho.1) (by omega) ?_
  rw [nI_leI (by omega) (by omega)]
  refine ⟨fun q2 => hf ?_, fun q2 => ht ⟨i, by omega, rfl⟩⟩
  rintro ⟨k, hk, e⟩
  rw [nI_eq (by omega) (by omega)] at e
  omega
theorem M_in1 {m : Nat} {a : Int32} (hm : m < 8) {T : Nat → Nat → Int32} {Q : Bool → (Nat → Nat → Int32) → Prop} (ht : IX m a → Q true T) (hf : ¬ IX m a → Q false T) : wX5_in a 0 (nI m - 1) T Q := by
  match m, hm with
  | 0, _ =>
    have no : ¬ IX 0 a := fun ⟨i, hi, _⟩ => absurd hi (Nat.not_lt_zero i)
    refine ⟨fun _ => hf no, fun q => ⟨fun _ => hf no, fun q2 => ?_⟩⟩
    obtain ⟨i, hi, rfl⟩ := nI_of q
    exfalso
    apply q2
    rw [Int32.lt_iff_toInt_lt, nI_toInt hi, show (nI 0 - 1 : Int32).toInt = -1 from rfl]
    omega
  | k + 1, hm =>
    rw [nI_pred]
    by_cases h : IX (k + 1) a
    · exact M_in_t (by omega) h (ht h)
    · exact M_in_f (by omega) h (hf h)
theorem M_hf {j : Nat} {a : Int32} (hi' : Gi s b 0 α z 0 0 (fun _ => True)) (hj : j < 16) {Q : Bool → (Nat → Nat → Int32) → Prop} (h0 : α 6 j = 0 → Q false (nR (upN α 0 0 2))) (ht : α 6 j ≠ 0 → IX (α 1 (α 6 j) % 8) a → Q true (nR (upN α 0 0 0))) (hf : α 6 j ≠ 0 → ¬ IX (α 1 (α 6 j) % 8) a → Q false (nR (upN α 0 0 1))) : wX5_hasField (nI j) a (nR α) Q := by
  have hol := VV_lt hi'.1 (hi'.2.2.2.2.2.1.1 j hj)
  have hs1 := hi'.1.1.2.1
  unfold wX5_hasField
  rw [nI_clamp (by omega), nR_at, ← nI_0, nI_eq (by omega) (by omega)]
  have v : vp_in (nI j) 16 := (vp_nI (by omega)).mpr hj
  refine ⟨v, fun q => ?_, fun q => ⟨v, ?_⟩⟩
  · unfold wX5_hasField_b39
    rintro S7 rfl
    rw [thr0]
    refine ⟨fun q2 => absurd q2 (by decide), fun _ => ?_⟩
    rw [show (2 : Int32) = nI 2 from rfl, up2_nR]
    exact h0 q
  · have hw := (hi'.2.2.2.1 _ (Or.inl (root_o hi' hj q))).1.2
    refine M_fields (by omega) (by omega) ?_
    refine M_in1 (by omega) (fun q2 => ⟨fun q3 => (by simp at q3), fun _ => ?_⟩) (fun q2 => ⟨fun _ => ?_, fun q3 => (by simp at q3)⟩)
    · unfold wX5_hasField_b39
      rintro S7 rfl
      rw [thr0, up2_nR]
      exact ⟨fun _ => ht q q2, fun q3 => absurd rfl q3⟩
    · unfold wX5_hasField_b39
      rintro S7 rfl
      rw [thr0, show (1 : Int32) = nI 1 from rfl, up2_nR]
      exact ⟨fun q3 => absurd q3 (by decide), fun _ => hf q q2⟩
/-- the field of a root's object: its place is a field in use -/
theorem fld (hi' : Gi s b 0 α z 0 0 (fun _ => True)) {o i : Nat} (ho : OU s α z o) (hi : i < α 1 o % 8) : FU s α z (o + 2 + i) := by
  have h := (hi'.2.2.2.1 o (Or.inl ho)).1.1
  exact ⟨o, ho, by omega, by omega⟩
theorem O_get (hN : LN n s b) {T : Nat → Nat → Int32} (h : PV s b S T) (a1 a2 a3 : Int32) : op_get n a1 a2 a3 S T (PV s b) := by
  obtain ⟨α, z, rfl, gi, gr, h29⟩ := h
  unfold op_get wL_get wX4_get
  have hs1 := gi.1.1.2.1
  have hn26 : n 26 = 1 + 14 * s := hN.2.2.2.2.2.2.2.2.2.2.1
  have k : wX5_get_b19 a1 a2 a3 (nR α) (fun b1 T1 => wX5_thrown T1 (fun th T2 => th = 1 ∧ ((1 : Int32) = 0 → none = some b1) ∧ PV s b S T2)) := by
    unfold wX5_get_b19 wX5_get_b20
    rintro S4 rfl
    rw [thr0]
    exact ⟨fun _ => ⟨rfl, fun q => absurd q (by decide), PV_thrI (t := 1) gi gr h29⟩, fun q => absurd (by decide) q⟩
  by_cases h1 : IX 16 a1
  · refine L_rt h1 ?_
    by_cases h2 : IX 16 a2
    · refine L_rt h2 ?_
      obtain ⟨j, hj, rfl⟩ := id h1
      obtain ⟨i, hi, rfl⟩ := id h2
      have hol := VV_lt gi.1 (gi.2.2.2.2.2.1.1 i hi)
      have v16 : vp_in (nI j) (n 16) := (vp_nI (by omega)).mpr (by rw [hN.1]; exact hj)
      have v16' : vp_in (nI j) 16 := (vp_nI (by omega)).mpr hj
      unfold wX4_objectOf wX4_lookAtField
      rw [nI_clamp (show i < 2 ^ 31 by omega), gr.2.1.1.2 i hi, ← nI_0, nI_eq (by omega) (by omega)]
      have md : ∀ Q : Int32 → (Nat → Nat → Int32) → Prop, (∀ t, (α 6 i = 0 ∧ t = 2) ∨ (α 6 i ≠ 0 ∧ ¬ IX (α 1 (α 6 i) % 8) a3 ∧ t = 1) → Q 0 (nR (upN (upN α 0 0 0) 0 0 t))) → (α 6 i ≠ 0 → IX (α 1 (α 6 i) % 8) a3 → vp_in (nI i) 16 ∧ vp_in ((nI (α 6 i) + 2) + a3) 1793 ∧ vp_in (nI j) 16 ∧ ∀ S13, S13 = up2 (nR (upN (upN α 0 0 0) 0 0 0)) 6 j (nI (α 1 (((nI (α 6 i) + 2) + a3).toNatClampNeg))) → vp_in (nI j) 16 ∧ Q (S13 6 j) S13) → wX5_get (nI j) (nI i) a3 (nR α) Q := by
        intro Q q1 q2
        unfold wX5_get
        refine M_rt h1 ⟨fun q => (by simp at q), fun _ => M_rt h2 ⟨fun q => (by simp at q), fun _ => ?_⟩⟩
        unfold wX5_get_b20
        rintro S7 rfl
        rw [thr0, ← nI_0, set_thr]
        refine ⟨fun q => absurd q (by decide), fun _ => ?_⟩
        refine M_hf (α := upN α 0 0 0) (z := z) gi hi (fun q => ⟨fun _ => q1 2 (Or.inl ⟨q, rfl⟩), fun q3 => (by simp at q3)⟩) (fun q q4 => ⟨fun q3 => (by simp at q3), fun _ => ?_⟩) (fun q q4 => ⟨fun _ => q1 1 (Or.inr ⟨q, q4, rfl⟩), fun q3 => (by simp at q3)⟩)
        rw [nI_clamp (show i < 2 ^ 31 by omega), nI_clamp (show j < 2 ^ 31 by omega)]
        exact q2 q q4
      refine ⟨(vp_nI (by omega)).mpr (by rw [hN.1]; exact hi), fun q => Or.inr ⟨rfl, ?_⟩, fun q => ?_⟩
      · refine md _ (fun t ht => ?_) (fun q2 => absurd q q2)
        rcases ht with ht | ht
        · rw [ht.2]
          exact ⟨rfl, fun q => absurd q (by decide), PV_thr (α := upN α 0 0 0) gi gr h29⟩
        · exact absurd q ht.1
      · have ho := root_o gi hi q
        refine C_hf gi gr hN ho (fun q3 => ⟨fun q4 => (by simp at q4), fun _ => ?_⟩) (fun q3 => ⟨fun _ => Or.inl ⟨rfl, ?_⟩, fun q4 => (by simp at q4)⟩)
        · obtain ⟨m, hm, rfl⟩ := id q3
          have hf := fld gi ho hm
          have hfu := FU_in gi.1 gi.2.2.1 hf
          have hfl := U_lt gi.1 hfu.1
          have hvv := FU_V gi.2.2.2.1 hf
          unfold wX1_fieldOf
          rw [show (2 : Int32) = nI 2 from rfl, nI_add, nI_add, nI_clamp (show α 6 i + 2 + m < 2 ^ 31 by omega), w26 gi.1 gr hfu.1, nI_clamp (show j < 2 ^ 31 by omega)]
          refine ⟨(vp_nI (by omega)).mpr (by omega), v16, ?_⟩
          rintro S11 rfl
          rw [up2_hit]
          obtain ⟨c1, c2⟩ := set6 (α := upN (upN α 0 0 0) 0 0 0) (k := j) (v := α 1 (α 6 i + 2 + m)) gi gr hvv
          refine ⟨v16, md _ (fun t ht => ?_) (fun _ _ => ?_)⟩
          · rcases ht with ht | ht
            · exact absurd ht.1 q
            · exact absurd q3 ht.2.1
          · rw [show (2 : Int32) = nI 2 from rfl, nI_add, nI_add, nI_clamp (show α 6 i + 2 + m < 2 ^ 31 by omega), up2_nR]
            refine ⟨(vp_nI (by omega)).mpr hi, (vp_nI (by omega)).mpr (by omega), v16', ?_⟩
            rintro S13 rfl
            rw [nR_at, upN_hit]
            exact ⟨v16', rfl, fun _ => rfl, _, z, rfl, c1, c2, h29⟩
        · refine md _ (fun t ht => ?_) (fun _ q4 => absurd q4 q3)
          rcases ht with ht | ht
          · exact absurd ht.1 q
          · rw [ht.2.2]
            exact ⟨rfl, fun q => absurd q (by decide), PV_thr (α := upN α 0 0 0) gi gr h29⟩
    · refine L_rf h2 (Or.inl ⟨rfl, ?_⟩)
      unfold wX5_get
      exact M_rt h1 ⟨fun q => (by simp at q), fun _ => M_rf h2 ⟨fun _ => k, fun q => (by simp at q)⟩⟩
  · refine L_rf h1 (Or.inl ⟨rfl, ?_⟩)
    unfold wX5_get
    exact M_rf h1 ⟨fun _ => k, fun q => (by simp at q)⟩
end PO4
