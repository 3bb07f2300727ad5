/-! THE PURE PART: put, make, push -/
theorem nI_any (a : Int32) : ∃ l : Nat, a = nI l := ⟨a.toBitVec.toNat, by
  apply Int32.toBitVec_inj.mp
  apply BitVec.eq_of_toNat_eq
  show _ = (Int32.ofNat _).toBitVec.toNat
  simp⟩
section PO5
variable {s b : Nat} {α : Nat → Nat → Nat} {z : Nat → Nat} {S : Nat → Nat → Int32} {n : Nat → Nat}
/-- a root or none: both read the same value -/
theorem R_orN (hN : LN n s b) (gi : Gi s b 0 α z 0 0 (fun _ => True)) (gr : RS s 0 α z S) {a3 : Int32} (h3 : a3 = -1 ∨ IX 16 a3) : ∃ v, VV s 0 α z v ∧ (∀ P : Int32 → Prop, P (nI v) → (a3 = -1 → P 0) ∧ (¬ a3 = -1 → vp_in a3 16 ∧ P (nI (α 6 a3.toNatClampNeg)))) ∧ (∀ Q : Int32 → (Nat → Nat → Int32) → Prop, Q (nI v) S → wX1_rootOrNull n a3 S Q) := by
  by_cases h : a3 = -1
  · refine ⟨0, Or.inl rfl, fun P hP => ⟨fun _ => by rw [← nI_0]; exact hP, fun q => absurd h q⟩, fun Q hQ => ⟨fun _ => by rw [← nI_0]; exact hQ, fun q => absurd h q⟩⟩
  · have h16 : IX 16 a3 := h3.elim (fun q => absurd q h) (fun q => q)
    obtain ⟨i, hi, rfl⟩ := h16
    refine ⟨α 6 i, gi.2.2.2.2.2.1.1 i hi, fun P hP => ⟨fun q => absurd q h, fun _ => ⟨(vp_nI (by omega)).mpr hi, ?_⟩⟩, fun Q hQ => ⟨fun q => absurd q h, fun _ => ⟨(vp_nI (by omega)).mpr (by rw [hN.1]; exact hi), ?_⟩⟩⟩
    · rw [nI_clamp (by omega)]
      exact hP
    · rw [nI_clamp (by omega), gr.2.1.1.2 i hi]
      exact hQ
theorem O_put (hN : LN n s b) {T : Nat → Nat → Int32} (h : PV s b S T) (a1 a2 a3 : Int32) : op_put n a1 a2 a3 S T (PV s b) := by
  obtain ⟨α, z, rfl, gi, gr, h29⟩ := h
  unfold op_put wL_put wX4_put
  have hs1 := gi.1.1.2.1
  have hn26 : n 26 = 1 + 14 * s := hN.2.2.2.2.2.2.2.2.2.2.1
  have k : wX5_put_b24 a1 a2 a3 (nR α) (fun b1 T1 => wX5_thrown T1 (fun th T2 => th = 1 ∧ ((1 : Int32) = 0 → none = some b1) ∧ PV s b S T2)) := by
    unfold wX5_put_b24 wX5_put_b25
    rintro S4 rfl
    rw [thr0]
    exact ⟨fun _ => ⟨rfl, fun q => absurd q (by decide), PV_thrI (t := 1) gi gr h29⟩, fun q => absurd (by decide) q⟩
  by_cases h1 : IX 16 a1
  · refine L_rt h1 ?_
    by_cases h3 : a3 = -1 ∨ IX 16 a3
    · obtain ⟨j, hj, rfl⟩ := id h1
      have hol := VV_lt gi.1 (gi.2.2.2.2.2.1.1 j hj)
      have v16' : vp_in (nI j) 16 := (vp_nI (by omega)).mpr hj
      obtain ⟨v, hv, mr, cr⟩ := R_orN hN gi gr h3
      have ln : ∀ {Q : Unit → (Nat → Nat → Int32) → Prop} {QX : String → (Nat → Nat → Int32) → Prop}, Q () S → wX4_lookAtRootOrNone n a3 S Q QX := fun hq => ⟨fun _ => hq, fun q => h3.elim (fun q2 => absurd q2 q) (fun q2 => L_rt q2 hq)⟩
      refine ln ?_
      have md : ∀ Q : Int32 → (Nat → Nat → Int32) → Prop, (∀ t, (α 6 j = 0 ∧ t = 2) ∨ (α 6 j ≠ 0 ∧ ¬ IX (α 1 (α 6 j) % 8) a2 ∧ t = 1) → Q 0 (nR (upN (upN α 0 0 0) 0 0 t))) → (α 6 j ≠ 0 → ∀ m, m < α 1 (α 6 j) % 8 → a2 = nI m → α 6 j + 2 + m < 1793 ∧ wX5_store (nI (α 6 j + 2 + m)) (nI v) (nR (upN (upN α 0 0 0) 0 0 0)) (fun _ S18 => Q (nI (α 1 (α 6 j + 2 + m))) S18)) → wX5_put (nI j) a2 a3 (nR α) Q := by
        intro Q q1 q2
        have go : wX5_put_b20 (nI j) a2 a3 (nR α) Q := by
          unfold wX5_put_b20 wX5_put_b25
          rintro S8 rfl
          rw [thr0, ← nI_0, set_thr]
          refine ⟨fun q => absurd q (by decide), fun _ => ?_⟩
          refine M_hf (α := upN α 0 0 0) (z := z) gi hj (fun q => ⟨fun _ => q1 2 (Or.inl ⟨q, rfl⟩), fun q3 => (by simp at q3)⟩) (fun q q4 => ⟨fun q3 => (by simp at q3), fun _ => ?_⟩) (fun q q4 => ⟨fun _ => q1 1 (Or.inr ⟨q, q4, rfl⟩), fun q3 => (by simp at q3)⟩)
          have q' : α 6 j ≠ 0 := q
          obtain ⟨m, hm, e⟩ := id q4
          have hm' : m < α 1 (α 6 j) % 8 := hm
          obtain ⟨w1, w2⟩ := q2 q' m hm' e
          rw [nI_clamp (show j < 2 ^ 31 by omega)]
          refine ⟨v16', ?_⟩
          intro x14 e14
          have e15 : x14 = nI (α 6 j + 2 + m) := by
            rw [e14, e]
            show (nI (α 6 j) + nI 2) + nI m = _
            rw [nI_add, nI_add]
          subst e15
          rw [nI_clamp (show α 6 j + 2 + m < 2 ^ 31 by omega)]
          refine ⟨(vp_nI (by omega)).mpr w1, ?_⟩
          exact mr (fun x => wX5_put_b85 (nI j) a2 a3 (nI (α 1 (α 6 j + 2 + m))) x (nI (α 6 j + 2 + m)) (nR (upN (upN α 0 0 0) 0 0 0)) Q) w2
        unfold wX5_put
        exact M_rt h1 ⟨fun q => (by simp at q), fun _ => ⟨fun _ => go, fun q => M_rt (h3.elim (fun q2 => absurd q2 q) (fun q2 => q2)) ⟨fun q => (by simp at q), fun _ => go⟩⟩⟩
      unfold wX4_objectOf wX4_lookAtField
      rw [nI_clamp (show j < 2 ^ 31 by omega), gr.2.1.1.2 j hj, ← nI_0, nI_eq (by omega) (by omega)]
      refine ⟨(vp_nI (by omega)).mpr (by rw [hN.1]; exact hj), fun q => Or.inr ⟨rfl, ?_⟩, fun q => ?_⟩
      · refine md _ (fun t ht => ?_) (fun q2 => absurd q q2)
        rcases ht with ht | ht
        · rw [ht.2]
          exact ⟨rfl, fun q => absurd q (by decide), PV_thr (α := upN α 0 0 0) gi gr h29⟩
        · exact absurd q ht.1
      · have ho := root_o gi hj q
        refine C_hf gi gr hN ho (fun q3 => ⟨fun q4 => (by simp at q4), fun _ => ?_⟩) (fun q3 => ⟨fun _ => Or.inl ⟨rfl, ?_⟩, fun q4 => (by simp at q4)⟩)
        · obtain ⟨m, hm, rfl⟩ := id q3
          have hf := fld gi ho hm
          have hfu := FU_in gi.1 gi.2.2.1 hf
          have hfl := U_lt gi.1 hfu.1
          obtain ⟨α', S', i1, i2, i3, i4, i5, i6⟩ := J_store (α := upN (upN α 0 0 0) 0 0 0) hN gi gr hf hv
          have e2 : (nI (α 6 j) + 2) + nI m = nI (α 6 j + 2 + m) := by
            rw [show (2 : Int32) = nI 2 from rfl, nI_add, nI_add]
          unfold wX1_fieldOf
          rw [e2, nI_clamp (show α 6 j + 2 + m < 2 ^ 31 by omega), w26 gi.1 gr hfu.1]
          refine ⟨(vp_nI (by omega)).mpr (by omega), ?_⟩
          refine cr _ ?_
          refine i6 (nI (α 6 j)) (nI m) _ e2 ?_
          refine md _ (fun t ht => ?_) (fun _ m' hm' e => ⟨?_, ?_⟩)
          · rcases ht with ht | ht
            · exact absurd ht.1 q
            · exact absurd q3 ht.2.1
          · have := (nI_eq (by omega) (by omega)).mp e
            omega
          · have em : m' = m := ((nI_eq (by omega) (by omega)).mp e).symm
            rw [em]
            refine i5 _ ⟨?_, fun _ => rfl, α', z, rfl, i1, i2, ?_⟩
            · rw [nR_at, i3.1]
              rfl
            · rw [i3.2.2]
              exact h29
        · refine md _ (fun t ht => ?_) (fun _ m' hm' e => absurd ⟨m', hm', e⟩ q3)
          rcases ht with ht | ht
          · exact absurd ht.1 q
          · rw [ht.2.2]
            exact ⟨rfl, fun q => absurd q (by decide), PV_thr (α := upN α 0 0 0) gi gr h29⟩
    · have h2 : ¬ a3 = -1 := fun q => h3 (Or.inl q)
      have h4 : ¬ IX 16 a3 := fun q => h3 (Or.inr q)
      refine ⟨fun q => absurd q h2, fun _ => L_rf h4 (Or.inl ⟨rfl, ?_⟩)⟩
      unfold wX5_put
      exact M_rt h1 ⟨fun q => (by simp at q), fun _ => ⟨fun q => absurd q h2, fun _ => M_rf h4 ⟨fun _ => k, fun q => (by simp at q)⟩⟩⟩
  · refine L_rf h1 (Or.inl ⟨rfl, ?_⟩)
    unfold wX5_put
    exact M_rf h1 ⟨fun _ => k, fun q => (by simp at q)⟩
theorem O_make (hN : LN n s b) {T : Nat → Nat → Int32} (h : PV s b S T) (a1 a2 a3 a4 : Int32) : op_make n a1 a2 a3 a4 S T (PV s b) := by
  obtain ⟨α, z, rfl, gi, gr, h29⟩ := h
  unfold op_make wL_make wX4_make
  have hs1 := gi.1.1.2.1
  have k1 : wX5_make_b27 a1 a2 a3 a4 1 (nR α) (fun b1 T1 => wX5_thrown T1 (fun th T2 => th = 1 ∧ ((1 : Int32) = 0 → none = some b1) ∧ PV s b S T2)) := by
    unfold wX5_make_b27
    rintro S4 rfl
    rw [thr0]
    exact ⟨fun q => absurd q (by decide), fun _ => ⟨rfl, fun q => absurd q (by decide), PV_thrI (t := 1) gi gr h29⟩⟩
  have k2 : wX5_make_b27 a1 a2 a3 a4 2 (nR α) (fun b1 T1 => wX5_thrown T1 (fun th T2 => th = 2 ∧ ((2 : Int32) = 0 → none = some b1) ∧ PV s b S T2)) := by
    unfold wX5_make_b27
    rintro S4 rfl
    rw [thr0]
    exact ⟨fun q => absurd q (by decide), fun _ => ⟨rfl, fun q => absurd q (by decide), PV_thrI (t := 2) gi gr h29⟩⟩
  by_cases h1 : IX 16 a1
  · refine L_rt h1 ?_
    by_cases h2 : IX 7 a2
    · obtain ⟨j, hj, rfl⟩ := id h1
      obtain ⟨m, hm, rfl⟩ := id h2
      obtain ⟨lab, rfl⟩ := nI_any a3
      obtain ⟨α', z', S', r, i1, i2, i3, i4, i5, i6⟩ := J_object (α := upN α 0 0 0) (n0 := m) (lab := lab) (a3 := a4) hN (by omega) gi gr
      refine ⟨fun q => absurd q (nI_pos (by omega)), fun _ => ⟨fun _ => i5 _ ?_, fun q => absurd (nI_le (show m ≤ 6 by omega) (by omega)) q⟩⟩
      have hrl : r < 1793 := by
        rcases i6 with q | q
        · omega
        · have := U_lt i1.1 q.1.1
          omega
      have v16' : vp_in (nI j) 16 := (vp_nI (by omega)).mpr hj
      have md : ∀ Q : Int32 → (Nat → Nat → Int32) → Prop, (r = 0 → Q (nI r) (nR α')) → (r ≠ 0 → Q (nI r) (nR (upN α' 6 j r))) → wX5_make (nI j) (nI m) (nI lab) a4 (nR α) Q := by
        intro Q q1 q2
        unfold wX5_make
        refine M_rt h1 ⟨fun q => (by simp at q), fun _ => M_in_t (k := 6) (by omega) h2 ⟨fun q => (by simp at q), fun _ => ?_⟩⟩
        unfold wX5_make_b27
        rintro S7 rfl
        rw [thr0, ← nI_0, set_thr]
        refine ⟨fun _ => i4 _ ?_, fun q => absurd (nI_le (Nat.le_refl 0) (by omega)) q⟩
        rw [nI_eq (by omega) (by omega), nI_clamp (show j < 2 ^ 31 by omega)]
        unfold wX5_make_b70
        rw [nI_clamp (show j < 2 ^ 31 by omega)]
        refine ⟨fun q => ⟨v16', v16', ?_⟩, fun q => ⟨v16', ?_⟩⟩
        · rintro S13 rfl
          rw [nR_at, up2_nR, upN_same]
          exact q1 q
        · rintro S13 rfl
          rw [up2_nR]
          exact q2 q
      have e29 : α' 0 29 ≤ 64 := by
        rw [i3.2.2]
        exact h29
      have e00 : nR α' 0 0 = 0 := by
        rw [nR_at, i3.1]
        rfl
      rw [← nI_0, nI_eq (by omega) (by omega)]
      refine ⟨fun q => md _ (fun _ => ⟨e00, fun _ => rfl, α', z', rfl, i1, i2, e29⟩) (fun q2 => absurd q q2), fun q => ⟨(vp_nI (by omega)).mpr (by rw [hN.1]; exact hj), ?_⟩⟩
      rintro S8 rfl
      rw [nI_clamp (show j < 2 ^ 31 by omega)]
      refine md _ (fun q2 => absurd q2 q) (fun _ => ?_)
      have hr' : VV s 0 α' z' r := i6.elim (fun q2 => absurd q2 q) (fun q2 => Or.inr (Or.inl q2.1))
      obtain ⟨c1, c2⟩ := set6 (k := j) i1 i2 hr'
      exact ⟨e00, fun _ => rfl, _, z', rfl, c1, c2, e29⟩
    · have md : wX5_make a1 a2 a3 a4 (nR α) (fun b1 T1 => wX5_thrown T1 (fun th T2 => th = 2 ∧ ((2 : Int32) = 0 → none = some b1) ∧ PV s b S T2)) := by
        unfold wX5_make
        exact M_rt h1 ⟨fun q => (by simp at q), fun _ => M_in_f (k := 6) (by omega) h2 ⟨fun _ => k2, fun q => (by simp at q)⟩⟩
      refine ⟨fun _ => Or.inr ⟨rfl, md⟩, fun q0 => ⟨fun q1 => ?_, fun _ => Or.inr ⟨rfl, md⟩⟩⟩
      obtain ⟨i, hi, rfl⟩ := nI_of q0
      rw [show (6 : Int32) = nI 6 from rfl, nI_leI (by omega) (by omega)] at q1
      exact absurd ⟨i, by omega, rfl⟩ h2
  · refine L_rf h1 (Or.inl ⟨rfl, ?_⟩)
    unfold wX5_make
    exact M_rf h1 ⟨fun _ => k1, fun q => (by simp at q)⟩
theorem L_push (hN : LN n s b) {j t lab : Nat} (hj : j < 16) (ht : t ≤ 40) : ∀ m k (α : Nat → Nat → Nat) (z : Nat → Nat) (S : Nat → Nat → Int32) (o : Nat), k + m = t → Gi s b 0 α z 0 0 (fun _ => True) → RS s 0 α z S → α 0 0 = 0 → α 0 29 ≤ 64 → o ≠ 0 → o < 1793 → ∃ α' z' S' r, Gi s b 0 α' z' 0 0 (fun _ => True) ∧ RS s 0 α' z' S' ∧ α' 0 0 = 0 ∧ α' 0 29 ≤ 64 ∧ (∀ Q : Int32 → (Nat → Nat → Int32) → Prop, Q (nI r) (nR α') → wX5_push_b36 (nI j) (nI lab) (nI t) (m + 2) (nI o) (nI k) (nR α) Q) ∧ (∀ (Q : Int32 → (Nat → Nat → Int32) → Prop) (QX : String → (Nat → Nat → Int32) → Prop), Q (nI r) S' → wX4_push_b26 n (nI j) (nI lab) (nI t) (m + 1) (nI k) S Q QX) := by
  intro m
  induction m with
  | zero =>
    intro k α z S o hk gi gr h0 h29 ho1 ho2
    refine ⟨α, z, S, t, gi, gr, h0, h29, fun Q hQ => ?_, fun Q QX hQ => ?_⟩
    · rw [wX5_push_b36]
      refine ⟨fun _ => ⟨fun q => absurd q (nI_ne0 (by omega) (by omega)), fun _ => ⟨fun _ => ?_, fun q => absurd (nI_le (by omega) (by omega)) q⟩⟩, fun q => absurd (by rw [nR_at, h0]; rfl) q⟩
      rw [show k = t by omega]
      exact hQ
    · rw [wX4_push_b26]
      exact ⟨fun _ => hQ, fun q => absurd (nI_le (by omega) (by omega)) q⟩
  | succ m ih =>
    intro k α z S o hk gi gr h0 h29 ho1 ho2
    have hs1 := gi.1.1.2.1
    obtain ⟨α1, z1, S1, r, i1, i2, i3, i4, i5, i6⟩ := J_object (n0 := 2) (lab := lab + k) (a3 := 0) hN (by omega) gi gr
    have e00 : α1 0 0 = 0 := by rw [i3.1]; exact h0
    have e29 : α1 0 29 ≤ 64 := by rw [i3.2.2]; exact h29
    have hle : ¬ nI t ≤ nI k := by rw [nI_leI (by omega) (by omega)]; omega
    by_cases hr : r = 0
    · refine ⟨α1, z1, S1, k, i1, i2, e00, e29, fun Q hQ => ?_, fun Q QX hQ => ?_⟩
      · rw [wX5_push_b36]
        refine ⟨fun _ => ⟨fun q => absurd q (nI_ne0 (by omega) (by omega)), fun _ => ⟨fun q => absurd q hle, fun _ => ?_⟩⟩, fun q => absurd (by rw [nR_at, h0]; rfl) q⟩
        rw [nI_add]
        refine i4 _ ⟨fun _ => ?_, fun q => absurd (by rw [hr]; rfl) q⟩
        rw [wX5_push_b36]
        exact ⟨fun _ => ⟨fun _ => hQ, fun q => absurd (by rw [hr]; rfl) q⟩, fun q => absurd (by rw [nR_at, e00]; rfl) q⟩
      · rw [wX4_push_b26]
        refine ⟨fun q => absurd q hle, fun _ => ?_⟩
        rw [nI_add]
        exact i5 _ ⟨fun _ => hQ, fun q => absurd (by rw [hr]; rfl) q⟩
    · obtain ⟨o1, o2⟩ := i6.elim (fun q => absurd q hr) (fun q => q)
      have hrl := U_lt i1.1 o1.1
      have hf : FU s α1 z1 (r + 2) := ⟨r, o1, by omega, by omega⟩
      have hv := i1.2.2.2.2.2.1.1 j hj
      obtain ⟨α2, S2, j1, j2, j3, j4, j5, j6⟩ := J_store hN i1 i2 hf hv
      obtain ⟨c1, c2⟩ := set6 (k := j) (v := r) j1 j2 (Or.inr (Or.inl (j4 r o1)))
      obtain ⟨α', z', S', r', p1, p2, p3, p4, p5, p6⟩ := ih (k + 1) (upN α2 6 j r) z1 (up2 S2 16 j (nI r)) r (by omega) c1 c2 (by show α2 0 0 = 0; rw [j3.1]; exact e00) (by show α2 0 29 ≤ 64; rw [j3.2.2]; exact e29) hr (by omega)
      refine ⟨α', z', S', r', p1, p2, p3, p4, fun Q hQ => ?_, fun Q QX hQ => ?_⟩
      · rw [wX5_push_b36]
        refine ⟨fun _ => ⟨fun q => absurd q (nI_ne0 (by omega) (by omega)), fun _ => ⟨fun q => absurd q hle, fun _ => ?_⟩⟩, fun q => absurd (by rw [nR_at, h0]; rfl) q⟩
        rw [nI_add]
        refine i4 _ ⟨fun q => absurd q (nI_ne0 (by omega) (by omega)), fun _ => ⟨(vp_nI (by omega)).mpr hj, ?_⟩⟩
        rw [show (2 : Int32) = nI 2 from rfl, nI_add, nI_clamp (show j < 2 ^ 31 by omega), nR_at]
        refine j5 _ ⟨(vp_nI (by omega)).mpr hj, ?_⟩
        rintro S18 rfl x20 rfl
        rw [up2_nR, nI_1]
        exact p5 Q hQ
      · rw [wX4_push_b26]
        refine ⟨fun q => absurd q hle, fun _ => ?_⟩
        rw [nI_add]
        refine i5 _ ⟨fun q => absurd q (nI_ne0 (by omega) (by omega)), fun _ => ⟨(vp_nI (by omega)).mpr (by rw [hN.1]; exact hj), ?_⟩⟩
        rw [nI_clamp (show j < 2 ^ 31 by omega), i2.2.1.1.2 j hj]
        refine j6 (nI r) 0 _ (by rw [show (2 : Int32) = nI 2 from rfl, ← nI_0, nI_add, nI_add]) ⟨(vp_nI (by omega)).mpr (by rw [hN.1]; exact hj), ?_⟩
        rintro S12 rfl x14 rfl
        rw [nI_1]
        exact p6 Q QX hQ
theorem O_push (hN : LN n s b) {T : Nat → Nat → Int32} (h : PV s b S T) (a1 a2 a3 : Int32) : op_push n a1 a2 a3 S T (PV s b) := by
  obtain ⟨α, z, rfl, gi, gr, h29⟩ := h
  unfold op_push wL_push wX4_push
  have k0 : ∀ t : Nat, t ≠ 0 → t < 3 → wX5_push_b27 a1 a2 a3 (nI t) (nR α) (fun b1 T1 => wX5_thrown T1 (fun th T2 => th = nI t ∧ (nI t = 0 → none = some b1) ∧ PV s b S T2)) := fun t ht ht3 => by
    unfold wX5_push_b27
    rintro S4 rfl
    refine ⟨1, ?_⟩
    rw [wX5_push_b36, thr0]
    exact ⟨fun q => absurd q (nI_ne0 (by omega) (by omega)), fun _ => ⟨rfl, fun q => absurd q (nI_ne0 (by omega) (by omega)), PV_thrI (t := t) gi gr h29⟩⟩
  by_cases h1 : IX 16 a1
  · refine L_rt h1 ?_
    by_cases h2 : ∃ t, 1 ≤ t ∧ t ≤ 40 ∧ a3 = nI t
    · obtain ⟨j, hj, rfl⟩ := id h1
      obtain ⟨t, ht1, ht2, rfl⟩ := h2
      obtain ⟨lab, rfl⟩ := nI_any a2
      obtain ⟨α', z', S', r, i1, i2, i3, i4, i5, i6⟩ := L_push (lab := lab) hN hj ht2 t 0 (upN α 0 0 0) z S 1 (by omega) gi gr rfl h29 (by omega) (by omega)
      refine ⟨fun q => absurd q (by rw [show (1 : Int32) = nI 1 from rfl, nI_ltI (by omega) (by omega)]; omega), fun _ => ⟨fun _ => ⟨t + 1, i6 _ _ ?_⟩, fun q => absurd (by rw [show (40 : Int32) = nI 40 from rfl, nI_leI (by omega) (by omega)]; omega) q⟩⟩
      unfold wX5_push wX5_push_b27
      refine M_rt h1 ⟨fun q => (by simp at q), fun _ => ?_⟩
      refine ⟨fun q => absurd q (by rw [show (1 : Int32) = nI 1 from rfl, nI_ltI (by omega) (by omega)]; omega), fun _ => ⟨fun q => absurd q (by rw [show (40 : Int32) = nI 40 from rfl, nI_ltI (by omega) (by omega)]; omega), fun _ => ⟨fun q => (by simp at q), fun _ => ?_⟩⟩⟩
      rintro S7 rfl
      rw [← nI_0, set_thr]
      refine ⟨t + 2, i5 _ ⟨?_, fun _ => rfl, α', z', rfl, i1, i2, i4⟩⟩
      rw [nR_at, i3]
    · have md : wX5_push a1 a2 a3 (nR α) (fun b1 T1 => wX5_thrown T1 (fun th T2 => th = 2 ∧ ((2 : Int32) = 0 → none = some b1) ∧ PV s b S T2)) := by
        unfold wX5_push
        refine M_rt h1 ⟨fun q => (by simp at q), fun _ => ⟨fun _ => ⟨fun _ => k0 2 (by omega) (by omega), fun q => (by simp at q)⟩, fun q0 => ⟨fun _ => ⟨fun _ => k0 2 (by omega) (by omega), fun q => (by simp at q)⟩, fun q1 => ?_⟩⟩⟩
        exfalso
        have q2 : ¬ a3 < 0 := fun q => q0 (Int32.lt_trans q (by decide))
        obtain ⟨t, ht, rfl⟩ := nI_of q2
        rw [show (40 : Int32) = nI 40 from rfl, nI_ltI (by omega) (by omega)] at q1
        rw [show (1 : Int32) = nI 1 from rfl, nI_ltI (by omega) (by omega)] at q0
        exact h2 ⟨t, by omega, by omega, rfl⟩
      refine ⟨fun _ => Or.inr ⟨rfl, md⟩, fun q0 => ⟨fun q1 => ?_, fun _ => Or.inr ⟨rfl, md⟩⟩⟩
      have q2 : ¬ a3 < 0 := fun q => q0 (Int32.lt_trans q (by decide))
      obtain ⟨t, ht, rfl⟩ := nI_of q2
      rw [show (40 : Int32) = nI 40 from rfl, nI_leI (by omega) (by omega)] at q1
      rw [show (1 : Int32) = nI 1 from rfl, nI_ltI (by omega) (by omega)] at q0
      exact absurd ⟨t, by omega, by omega, rfl⟩ h2
  · refine L_rf h1 (Or.inl ⟨rfl, ?_⟩)
    unfold wX5_push
    exact M_rf h1 ⟨fun _ => k0 1 (by omega) (by omega), fun q => (by simp at q)⟩
end PO5
