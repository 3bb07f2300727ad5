/-! THE PURE PART: what hinders an instruction -/
def HF (α : Nat → Nat → Nat) (a b' c : Int32) : Nat → Prop
  | 2 => ∃ j m, j < 16 ∧ a = nI j ∧ α 6 j ≠ 0 ∧ m < α 1 (α 6 j) % 8 ∧ b' = nI m
  | 3 => ∃ j m, j < 16 ∧ b' = nI j ∧ α 6 j ≠ 0 ∧ m < α 1 (α 6 j) % 8 ∧ c = nI m
  | 5 => α 0 9 ≠ 40
  | 6 => α 0 9 ≠ 0
  | 9 => ∃ j, j < 16 ∧ b' = nI j ∧ α 6 j ≠ 0
  | _ => True
/-- what endBefore asks behind isWrong -/
def EB (n : Nat → Nat) (S4 : Nat → Nat → Int32) (Q : Int32 → (Nat → Nat → Int32) → Prop) : Prop :=
  vp_in (4 * (S4 2 4)) (n 27) ∧ ((S4 27 ((4 * (S4 2 4)).toNatClampNeg)) = 2 → vp_in ((4 * (S4 2 4)) + 1) (n 27) ∧ vp_in ((4 * (S4 2 4)) + 2) (n 27) ∧ wX2_endOfObject n (S4 27 (((4 * (S4 2 4)) + 1).toNatClampNeg)) (S4 27 (((4 * (S4 2 4)) + 2).toNatClampNeg)) S4 (fun r7 S8 => Q r7 S8)) ∧
  ((S4 27 ((4 * (S4 2 4)).toNatClampNeg)) = 3 → vp_in ((4 * (S4 2 4)) + 2) (n 27) ∧ vp_in ((4 * (S4 2 4)) + 3) (n 27) ∧ wX2_endOfObject n (S4 27 (((4 * (S4 2 4)) + 2).toNatClampNeg)) (S4 27 (((4 * (S4 2 4)) + 3).toNatClampNeg)) S4 (fun r10 S11 => Q r10 S11)) ∧
  ((S4 27 ((4 * (S4 2 4)).toNatClampNeg)) = 4 → Q (-1 : Int32) S4) ∧
  ((S4 27 ((4 * (S4 2 4)).toNatClampNeg)) = 5 → wX3_isFull n 7 S4 (fun r14 S15 => (r14 = false → Q (-1 : Int32) S15) ∧ (r14 = true → Q 4 S15))) ∧
  ((S4 27 ((4 * (S4 2 4)).toNatClampNeg)) = 6 → ((S4 7 1) = 0 → Q 4 S4) ∧ (¬ (S4 7 1) = 0 → Q (-1 : Int32) S4)) ∧
  ((S4 27 ((4 * (S4 2 4)).toNatClampNeg)) = 7 → Q (-1 : Int32) S4) ∧
  ((S4 27 ((4 * (S4 2 4)).toNatClampNeg)) = 8 → Q (-1 : Int32) S4) ∧
  ((S4 27 ((4 * (S4 2 4)).toNatClampNeg)) = 9 → vp_in ((4 * (S4 2 4)) + 2) (n 27) ∧ vp_in (S4 27 (((4 * (S4 2 4)) + 2).toNatClampNeg)) (n 16) ∧ ((S4 16 ((S4 27 (((4 * (S4 2 4)) + 2).toNatClampNeg)).toNatClampNeg)) = 0 → Q 2 S4) ∧ (¬ (S4 16 ((S4 27 (((4 * (S4 2 4)) + 2).toNatClampNeg)).toNatClampNeg)) = 0 → Q (-1 : Int32) S4)) ∧
  (¬ (S4 27 ((4 * (S4 2 4)).toNatClampNeg)) = 2 → ¬ (S4 27 ((4 * (S4 2 4)).toNatClampNeg)) = 3 → ¬ (S4 27 ((4 * (S4 2 4)).toNatClampNeg)) = 4 → ¬ (S4 27 ((4 * (S4 2 4)).toNatClampNeg)) = 5 → ¬ (S4 27 ((4 * (S4 2 4)).toNatClampNeg)) = 6 → ¬ (S4 27 ((4 * (S4 2 4)).toNatClampNeg)) = 7 → ¬ (S4 27 ((4 * (S4 2 4)).toNatClampNeg)) = 8 → ¬ (S4 27 ((4 * (S4 2 4)).toNatClampNeg)) = 9 → Q (-1 : Int32) S4)
theorem nI_nm1 {j : Nat} (h : j < 2 ^ 31) : ¬ nI j = (-1 : Int32) := fun q => absurd (show nI j < 0 by rw [q]; decide) (nI_pos h)
section PO11
variable {s b : Nat} {α : Nat → Nat → Nat} {z : Nat → Nat} {S T : Nat → Nat → Int32} {n : Nat → Nat} {a b' c : Int32} {Q : Int32 → (Nat → Nat → Int32) → Prop}
theorem li_ne {i k : Nat} (hi : i < 15) (hk : k < 2 ^ 31) (h : i ≠ k) : ¬ nI i = nI k := fun q => h ((nI_eq (by omega) hk).mp q)
theorem H100 {i : Nat} (hi : i < 15) (h6 : i ≠ 6) (hQ : Q 0 T) : wX5_hindered_b100 (nI i) a b' c T Q := ⟨fun q => absurd q (li_ne (k := 6) hi (by omega) h6), fun _ => hQ⟩
theorem H86 {i : Nat} (hi : i < 15) (h5 : i ≠ 5) (h : wX5_hindered_b100 (nI i) a b' c T Q) : wX5_hindered_b86 (nI i) a b' c T Q := ⟨fun q => absurd q (li_ne (k := 5) hi (by omega) h5), fun _ => h⟩
theorem H64 {i : Nat} (hi : i < 15) (h3 : i ≠ 3) (h : wX5_hindered_b86 (nI i) a b' c T Q) : wX5_hindered_b64 (nI i) a b' c T Q := ⟨fun q => absurd q (li_ne (k := 3) hi (by omega) h3), fun _ => h⟩
theorem H45 {i : Nat} (hi : i < 15) (h2 : i ≠ 2) (h : wX5_hindered_b64 (nI i) a b' c T Q) : wX5_hindered_b45 (nI i) a b' c T Q := ⟨fun q => absurd q (li_ne (k := 2) hi (by omega) h2), fun _ => h⟩
theorem H0 {i : Nat} (hi : i < 15) (h2 : i ≠ 2) (h3 : i ≠ 3) (h9 : i ≠ 9) (h : wX5_hindered_b45 (nI i) a b' c T Q) : wX5_hindered (nI i) a b' c T Q := ⟨fun q => absurd q (li_ne (k := 2) hi (by omega) h2), fun _ => ⟨fun q => absurd q (li_ne (k := 3) hi (by omega) h3), fun _ => ⟨fun q => absurd q (li_ne (k := 9) hi (by omega) h9), fun _ => ⟨fun _ => h, fun q => absurd rfl q⟩⟩⟩⟩
theorem H25 {i j : Nat} (gi : Gi s b 0 α z 0 0 (fun _ => True)) (hj : j < 16) (h0 : α 6 j = 0 → Q 2 (nR α)) (h1 : α 6 j ≠ 0 → wX5_hindered_b45 (nI i) a b' c (nR α) Q) : wX5_hindered_b25 (nI i) a b' c (nI j) (nR α) Q := by
  have hol := VV_lt gi.1 (gi.2.2.2.2.2.1.1 j hj)
  have hs1 := gi.1.1.2.1
  refine ⟨fun q => absurd q (nI_nm1 (by omega)), fun _ => ⟨(vp_nI (by omega)).mpr hj, ?_⟩⟩
  rw [nI_clamp (by omega), nR_at]
  exact pk_eq (α 6 j) 0 h0 h1 rfl rfl (by omega) (by omega)
/-- PUT -/
theorem H_2 {j : Nat} (gi : Gi s b 0 α z 0 0 (fun _ => True)) (hj : j < 16) (hb : IX 6 b') (h0 : α 6 j = 0 → Q 2 (nR α)) (ht : α 6 j ≠ 0 → IX (α 1 (α 6 j) % 8) b' → Q 0 (nR α)) (hf : α 6 j ≠ 0 → ¬ IX (α 1 (α 6 j) % 8) b' → Q 3 (nR α)) : wX5_hindered (nI 2) (nI j) b' c (nR α) Q := by
  have hol := VV_lt gi.1 (gi.2.2.2.2.2.1.1 j hj)
  have hs1 := gi.1.1.2.1
  refine ⟨fun _ => H25 gi hj h0 (fun q => ⟨fun _ => ⟨(vp_nI (by omega)).mpr hj, ?_⟩, fun q2 => absurd rfl q2⟩), fun q => absurd rfl q⟩
  rw [nI_clamp (by omega), nR_at]
  have hw := (gi.2.2.2.1 _ (Or.inl (root_o gi hj q))).1.2
  obtain ⟨m, hm, rfl⟩ := hb
  refine M_fields (by omega) (by omega) (pk_le _ m (fun q2 => hf q (fun ⟨k, hk, e⟩ => ?_)) (fun q2 => ?_) rfl rfl (by omega) (by omega))
  · have := (nI_eq (by omega) (by omega)).mp e
    omega
  · exact H64 (i := 2) (by omega) (by omega) (H86 (by omega) (by omega) (H100 (by omega) (by omega) (ht q ⟨m, q2, rfl⟩)))
/-- GET -/
theorem H_3 {j : Nat} (gi : Gi s b 0 α z 0 0 (fun _ => True)) (hj : j < 16) (hb : IX 6 c) (h0 : α 6 j = 0 → Q 2 (nR α)) (ht : α 6 j ≠ 0 → IX (α 1 (α 6 j) % 8) c → Q 0 (nR α)) (hf : α 6 j ≠ 0 → ¬ IX (α 1 (α 6 j) % 8) c → Q 3 (nR α)) : wX5_hindered (nI 3) a (nI j) c (nR α) Q := by
  have hol := VV_lt gi.1 (gi.2.2.2.2.2.1.1 j hj)
  have hs1 := gi.1.1.2.1
  refine ⟨fun q => absurd q (by decide), fun _ => ⟨fun _ => H25 gi hj h0 (fun q => H45 (i := 3) (by omega) (by omega) ⟨fun _ => ⟨(vp_nI (by omega)).mpr hj, ?_⟩, fun q2 => absurd rfl q2⟩), fun q => absurd rfl q⟩⟩
  rw [nI_clamp (by omega), nR_at]
  have hw := (gi.2.2.2.1 _ (Or.inl (root_o gi hj q))).1.2
  obtain ⟨m, hm, rfl⟩ := hb
  refine M_fields (by omega) (by omega) (pk_lt m _ (fun q2 => ?_) (fun q2 => hf q (fun ⟨k, hk, e⟩ => ?_)) rfl rfl (by omega) (by omega))
  · exact H86 (i := 3) (by omega) (by omega) (H100 (by omega) (by omega) (ht q ⟨m, q2, rfl⟩))
  · have := (nI_eq (by omega) (by omega)).mp e
    omega
/-- PUSH, POP, NAME -/
theorem H_5 (gi : Gi s b 0 α z 0 0 (fun _ => True)) (ht : α 0 9 = 40 → Q 4 (nR α)) (hf : α 0 9 ≠ 40 → Q 0 (nR α)) : wX5_hindered (nI 5) a b' c (nR α) Q := by
  have h40 : α 0 9 ≤ 40 := gi.2.2.2.2.2.1.2.1
  refine H0 (i := 5) (by omega) (by omega) (by omega) (by omega) (H45 (by omega) (by omega) (H64 (by omega) (by omega) ⟨fun _ => ?_, fun q => absurd rfl q⟩))
  exact pk_eq (α 0 9) 40 ht (fun q => H100 (i := 5) (by omega) (by omega) (hf q)) rfl rfl (by omega) (by omega)
theorem H_6 (gi : Gi s b 0 α z 0 0 (fun _ => True)) (ht : α 0 9 = 0 → Q 4 (nR α)) (hf : α 0 9 ≠ 0 → Q 0 (nR α)) : wX5_hindered (nI 6) a b' c (nR α) Q := by
  have h40 : α 0 9 ≤ 40 := gi.2.2.2.2.2.1.2.1
  refine H0 (i := 6) (by omega) (by omega) (by omega) (by omega) (H45 (by omega) (by omega) (H64 (by omega) (by omega) (H86 (by omega) (by omega) ⟨fun _ => ?_, fun q => absurd rfl q⟩)))
  exact pk_eq (α 0 9) 0 ht hf rfl rfl (by omega) (by omega)
theorem H_9 {j : Nat} (gi : Gi s b 0 α z 0 0 (fun _ => True)) (hj : j < 16) (h0 : α 6 j = 0 → Q 2 (nR α)) (ht : α 6 j ≠ 0 → Q 0 (nR α)) : wX5_hindered (nI 9) a (nI j) c (nR α) Q := by
  refine ⟨fun q => absurd q (by decide), fun _ => ⟨fun q => absurd q (by decide), fun _ => ⟨fun _ => H25 gi hj h0 (fun q => ?_), fun q => absurd rfl q⟩⟩⟩
  exact H45 (i := 9) (by omega) (by omega) (H64 (by omega) (by omega) (H86 (by omega) (by omega) (H100 (by omega) (by omega) (ht q))))
theorem C_eoo {j : Nat} {x : Int32} (hN : LN n s b) (gi : Gi s b 0 α z 0 0 (fun _ => True)) (gr : RS s 0 α z S) (hj : j < 16) (h0 : α 6 j = 0 → Q 2 S) (ht : α 6 j ≠ 0 → IX (α 1 (α 6 j) % 8) x → Q (-1) S) (hf : α 6 j ≠ 0 → ¬ IX (α 1 (α 6 j) % 8) x → Q 3 S) : wX2_endOfObject n (nI j) x S Q := by
  have hol := VV_lt gi.1 (gi.2.2.2.2.2.1.1 j hj)
  have hs1 := gi.1.1.2.1
  unfold wX2_endOfObject
  rw [nI_clamp (by omega), gr.2.1.1.2 j hj]
  refine ⟨(vp_nI (by omega)).mpr (by rw [hN.1]; exact hj), pk_eq (α 6 j) 0 h0 (fun q => ?_) rfl rfl (by omega) (by omega)⟩
  exact C_hf gi gr hN (root_o gi hj q) (fun q2 => ⟨fun q3 => (by simp at q3), fun _ => ht q q2⟩) (fun q2 => ⟨fun _ => hf q q2, fun q3 => (by simp at q3)⟩)
theorem J_hind {L p i : Nat} (hN : LN n s b) (gi : Gi s b 0 α z 0 0 (fun _ => True)) (gr : RS s 0 α z S) (h24 : S 2 4 = nI p) (hp : p < 64) (ew : S 27 (4 * p) = nI i) (ea : S 27 (4 * p + 1) = a) (eb : S 27 (4 * p + 2) = b') (ec : S 27 (4 * p + 3) = c) (hi : i < 15) (hR : RTn L a b' c i) : ∃ h : Nat, h < 7 ∧ (h = 0 → HF α a b' c i) ∧ (∀ Q : Int32 → (Nat → Nat → Int32) → Prop, Q (nI h) (nR α) → wX5_hindered (nI i) a b' c (nR α) Q) ∧ (∀ Q : Int32 → (Nat → Nat → Int32) → Prop, (h = 0 → Q (-1) S) → (h ≠ 0 → Q (nI h) S) → EB n S Q) := by
  have n27 : n 27 = 256 := hN.2.2.2.2.2.2.2.2.2.2.2.1
  have h40 : α 0 9 ≤ 40 := gi.2.2.2.2.2.1.2.1
  have v0 : vp_in (nI (4 * p)) (n 27) := (vp_nI (by omega)).mpr (by omega)
  have v1 : vp_in (nI (4 * p + 1)) (n 27) := (vp_nI (by omega)).mpr (by omega)
  have v2 : vp_in (nI (4 * p + 2)) (n 27) := (vp_nI (by omega)).mpr (by omega)
  have v3 : vp_in (nI (4 * p + 3)) (n 27) := (vp_nI (by omega)).mpr (by omega)
  have e4 : (4 * (S 2 4) : Int32) = nI (4 * p) := by rw [h24, show (4 : Int32) = nI 4 from rfl, pk_mul]
  have e41 : (nI (4 * p) + 1 : Int32) = nI (4 * p + 1) := nI_1 _
  have e42 : (nI (4 * p) + 2 : Int32) = nI (4 * p + 2) := nI_add (4 * p) 2
  have e43 : (nI (4 * p) + 3 : Int32) = nI (4 * p + 3) := nI_add (4 * p) 3
  have c0 : (nI (4 * p)).toNatClampNeg = 4 * p := nI_clamp (by omega)
  have c1 : (nI (4 * p + 1)).toNatClampNeg = 4 * p + 1 := nI_clamp (by omega)
  have c2 : (nI (4 * p + 2)).toNatClampNeg = 4 * p + 2 := nI_clamp (by omega)
  have c3 : (nI (4 * p + 3)).toNatClampNeg = 4 * p + 3 := nI_clamp (by omega)
  unfold EB
  rw [e4, e41, e42, e43, c0, c1, c2, c3, ew, ea, eb, ec]
  match i, hi, hR with
  | 0, _, _ => exact ⟨0, by omega, fun _ => trivial, fun Q hQ => H0 (i := 0) (by omega) (by omega) (by omega) (by omega) (H45 (by omega) (by omega) (H64 (by omega) (by omega) (H86 (by omega) (by omega) (H100 (by omega) (by omega) hQ)))), fun Q h0 h1 => ⟨v0, fun q => absurd q (by decide), fun q => absurd q (by decide), fun q => absurd q (by decide), fun q => absurd q (by decide), fun q => absurd q (by decide), fun q => absurd q (by decide), fun q => absurd q (by decide), fun q => absurd q (by decide), fun _ _ _ _ _ _ _ _ => h0 rfl⟩⟩
  | 1, _, _ => exact ⟨0, by omega, fun _ => trivial, fun Q hQ => H0 (i := 1) (by omega) (by omega) (by omega) (by omega) (H45 (by omega) (by omega) (H64 (by omega) (by omega) (H86 (by omega) (by omega) (H100 (by omega) (by omega) hQ)))), fun Q h0 h1 => ⟨v0, fun q => absurd q (by decide), fun q => absurd q (by decide), fun q => absurd q (by decide), fun q => absurd q (by decide), fun q => absurd q (by decide), fun q => absurd q (by decide), fun q => absurd q (by decide), fun q => absurd q (by decide), fun _ _ _ _ _ _ _ _ => h0 rfl⟩⟩
  | 2, _, hR =>
    have h6 : IX 6 b' := hR.2.1
    obtain ⟨j, hj, ej⟩ : IX 16 a := hR.1
    rw [ej]
    by_cases q0 : α 6 j = 0
    · exact ⟨2, by omega, fun q => absurd q (by omega), fun Q hQ => H_2 gi hj h6 (fun _ => hQ) (fun q => absurd q0 q) (fun q => absurd q0 q), fun Q h0 h1 => ⟨v0, fun _ => ⟨v1, v2, C_eoo hN gi gr hj (fun _ => h1 (by omega)) (fun q => absurd q0 q) (fun q => absurd q0 q)⟩, fun q => absurd q (by decide), fun q => absurd q (by decide), fun q => absurd q (by decide), fun q => absurd q (by decide), fun q => absurd q (by decide), fun q => absurd q (by decide), fun q => absurd q (by decide), fun q _ _ _ _ _ _ _ => absurd rfl q⟩⟩
    · by_cases q1 : IX (α 1 (α 6 j) % 8) b'
      · exact ⟨0, by omega, fun _ => (by obtain ⟨m, hm, em⟩ := q1; exact ⟨j, m, hj, rfl, q0, hm, em⟩), fun Q hQ => H_2 gi hj h6 (fun q => absurd q q0) (fun _ _ => hQ) (fun _ q => absurd q1 q), fun Q h0 h1 => ⟨v0, fun _ => ⟨v1, v2, C_eoo hN gi gr hj (fun q => absurd q q0) (fun _ _ => h0 rfl) (fun _ q => absurd q1 q)⟩, fun q => absurd q (by decide), fun q => absurd q (by decide), fun q => absurd q (by decide), fun q => absurd q (by decide), fun q => absurd q (by decide), fun q => absurd q (by decide), fun q => absurd q (by decide), fun q _ _ _ _ _ _ _ => absurd rfl q⟩⟩
      · exact ⟨3, by omega, fun q => absurd q (by omega), fun Q hQ => H_2 gi hj h6 (fun q => absurd q q0) (fun _ q => absurd q q1) (fun _ _ => hQ), fun Q h0 h1 => ⟨v0, fun _ => ⟨v1, v2, C_eoo hN gi gr hj (fun q => absurd q q0) (fun _ q => absurd q q1) (fun _ _ => h1 (by omega))⟩, fun q => absurd q (by decide), fun q => absurd q (by decide), fun q => absurd q (by decide), fun q => absurd q (by decide), fun q => absurd q (by decide), fun q => absurd q (by decide), fun q => absurd q (by decide), fun q _ _ _ _ _ _ _ => absurd rfl q⟩⟩
  | 3, _, hR =>
    have h6 : IX 6 c := hR.2.2
    obtain ⟨j, hj, ej⟩ : IX 16 b' := hR.2.1
    rw [ej]
    by_cases q0 : α 6 j = 0
    · exact ⟨2, by omega, fun q => absurd q (by omega), fun Q hQ => H_3 gi hj h6 (fun _ => hQ) (fun q => absurd q0 q) (fun q => absurd q0 q), fun Q h0 h1 => ⟨v0, fun q => absurd q (by decide), fun _ => ⟨v2, v3, C_eoo hN gi gr hj (fun _ => h1 (by omega)) (fun q => absurd q0 q) (fun q => absurd q0 q)⟩, fun q => absurd q (by decide), fun q => absurd q (by decide), fun q => absurd q (by decide), fun q => absurd q (by decide), fun q => absurd q (by decide), fun q => absurd q (by decide), fun _ q _ _ _ _ _ _ => absurd rfl q⟩⟩
    · by_cases q1 : IX (α 1 (α 6 j) % 8) c
      · exact ⟨0, by omega, fun _ => (by obtain ⟨m, hm, em⟩ := q1; exact ⟨j, m, hj, rfl, q0, hm, em⟩), fun Q hQ => H_3 gi hj h6 (fun q => absurd q q0) (fun _ _ => hQ) (fun _ q => absurd q1 q), fun Q h0 h1 => ⟨v0, fun q => absurd q (by decide), fun _ => ⟨v2, v3, C_eoo hN gi gr hj (fun q => absurd q q0) (fun _ _ => h0 rfl) (fun _ q => absurd q1 q)⟩, fun q => absurd q (by decide), fun q => absurd q (by decide), fun q => absurd q (by decide), fun q => absurd q (by decide), fun q => absurd q (by decide), fun q => absurd q (by decide), fun _ q _ _ _ _ _ _ => absurd rfl q⟩⟩
      · exact ⟨3, by omega, fun q => absurd q (by omega), fun Q hQ => H_3 gi hj h6 (fun q => absurd q q0) (fun _ q => absurd q q1) (fun _ _ => hQ), fun Q h0 h1 => ⟨v0, fun q => absurd q (by decide), fun _ => ⟨v2, v3, C_eoo hN gi gr hj (fun q => absurd q q0) (fun _ q => absurd q q1) (fun _ _ => h1 (by omega))⟩, fun q => absurd q (by decide), fun q => absurd q (by decide), fun q => absurd q (by decide), fun q => absurd q (by decide), fun q => absurd q (by decide), fun q => absurd q (by decide), fun _ q _ _ _ _ _ _ => absurd rfl q⟩⟩
  | 4, _, _ => exact ⟨0, by omega, fun _ => trivial, fun Q hQ => H0 (i := 4) (by omega) (by omega) (by omega) (by omega) (H45 (by omega) (by omega) (H64 (by omega) (by omega) (H86 (by omega) (by omega) (H100 (by omega) (by omega) hQ)))), fun Q h0 h1 => ⟨v0, fun q => absurd q (by decide), fun q => absurd q (by decide), fun _ => h0 rfl, fun q => absurd q (by decide), fun q => absurd q (by decide), fun q => absurd q (by decide), fun q => absurd q (by decide), fun q => absurd q (by decide), fun _ _ q _ _ _ _ _ => absurd rfl q⟩⟩
  | 5, _, _ =>
    have e71 : S 7 1 = nI (α 0 9) := gr.2.1.2.1.1
    have e17 : nI (n (7 + 10)) = nI 40 := by rw [show n (7 + 10) = 40 from hN.2.1]
    by_cases q0 : α 0 9 = 40
    · exact ⟨4, by omega, fun q => absurd q (by omega), fun Q hQ => H_5 gi (fun _ => hQ) (fun q => absurd q0 q), fun Q h0 h1 => ⟨v0, fun q => absurd q (by decide), fun q => absurd q (by decide), fun q => absurd q (by decide), fun _ => pk_eq (α 0 9) 40 (fun _ => ⟨fun q => (by simp at q), fun _ => h1 (by omega)⟩) (fun q => absurd q0 q) e71 e17 (by omega) (by omega), fun q => absurd q (by decide), fun q => absurd q (by decide), fun q => absurd q (by decide), fun q => absurd q (by decide), fun _ _ _ q _ _ _ _ => absurd rfl q⟩⟩
    · exact ⟨0, by omega, fun _ => q0, fun Q hQ => H_5 gi (fun q => absurd q q0) (fun _ => hQ), fun Q h0 h1 => ⟨v0, fun q => absurd q (by decide), fun q => absurd q (by decide), fun q => absurd q (by decide), fun _ => pk_eq (α 0 9) 40 (fun q => absurd q q0) (fun _ => ⟨fun _ => h0 rfl, fun q => (by simp at q)⟩) e71 e17 (by omega) (by omega), fun q => absurd q (by decide), fun q => absurd q (by decide), fun q => absurd q (by decide), fun q => absurd q (by decide), fun _ _ _ q _ _ _ _ => absurd rfl q⟩⟩
  | 6, _, _ =>
    have e71 : S 7 1 = nI (α 0 9) := gr.2.1.2.1.1
    by_cases q0 : α 0 9 = 0
    · exact ⟨4, by omega, fun q => absurd q (by omega), fun Q hQ => H_6 gi (fun _ => hQ) (fun q => absurd q0 q), fun Q h0 h1 => ⟨v0, fun q => absurd q (by decide), fun q => absurd q (by decide), fun q => absurd q (by decide), fun q => absurd q (by decide), fun _ => pk_eq (α 0 9) 0 (fun _ => h1 (by omega)) (fun q => absurd q0 q) e71 rfl (by omega) (by omega), fun q => absurd q (by decide), fun q => absurd q (by decide), fun q => absurd q (by decide), fun _ _ _ _ q _ _ _ => absurd rfl q⟩⟩
    · exact ⟨0, by omega, fun _ => q0, fun Q hQ => H_6 gi (fun q => absurd q q0) (fun _ => hQ), fun Q h0 h1 => ⟨v0, fun q => absurd q (by decide), fun q => absurd q (by decide), fun q => absurd q (by decide), fun q => absurd q (by decide), fun _ => pk_eq (α 0 9) 0 (fun q => absurd q q0) (fun _ => h0 rfl) e71 rfl (by omega) (by omega), fun q => absurd q (by decide), fun q => absurd q (by decide), fun q => absurd q (by decide), fun _ _ _ _ q _ _ _ => absurd rfl q⟩⟩
  | 7, _, _ => exact ⟨0, by omega, fun _ => trivial, fun Q hQ => H0 (i := 7) (by omega) (by omega) (by omega) (by omega) (H45 (by omega) (by omega) (H64 (by omega) (by omega) (H86 (by omega) (by omega) (H100 (by omega) (by omega) hQ)))), fun Q h0 h1 => ⟨v0, fun q => absurd q (by decide), fun q => absurd q (by decide), fun q => absurd q (by decide), fun q => absurd q (by decide), fun q => absurd q (by decide), fun _ => h0 rfl, fun q => absurd q (by decide), fun q => absurd q (by decide), fun _ _ _ _ _ q _ _ => absurd rfl q⟩⟩
  | 8, _, _ => exact ⟨0, by omega, fun _ => trivial, fun Q hQ => H0 (i := 8) (by omega) (by omega) (by omega) (by omega) (H45 (by omega) (by omega) (H64 (by omega) (by omega) (H86 (by omega) (by omega) (H100 (by omega) (by omega) hQ)))), fun Q h0 h1 => ⟨v0, fun q => absurd q (by decide), fun q => absurd q (by decide), fun q => absurd q (by decide), fun q => absurd q (by decide), fun q => absurd q (by decide), fun q => absurd q (by decide), fun _ => h0 rfl, fun q => absurd q (by decide), fun _ _ _ _ _ _ q _ => absurd rfl q⟩⟩
  | 9, _, hR =>
    obtain ⟨j, hj, ej⟩ : IX 16 b' := hR.2
    have hol := VV_lt gi.1 (gi.2.2.2.2.2.1.1 j hj)
    have hs1 := gi.1.1.2.1
    rw [ej, nI_clamp (show j < 2 ^ 31 by omega), gr.2.1.1.2 j hj]
    have v16 : vp_in (nI j) (n 16) := (vp_nI (by omega)).mpr (by rw [hN.1]; exact hj)
    by_cases q0 : α 6 j = 0
    · exact ⟨2, by omega, fun q => absurd q (by omega), fun Q hQ => H_9 gi hj (fun _ => hQ) (fun q => absurd q0 q), fun Q h0 h1 => ⟨v0, fun q => absurd q (by decide), fun q => absurd q (by decide), fun q => absurd q (by decide), fun q => absurd q (by decide), fun q => absurd q (by decide), fun q => absurd q (by decide), fun q => absurd q (by decide), fun _ => ⟨v2, v16, pk_eq (α 6 j) 0 (fun _ => h1 (by omega)) (fun q => absurd q0 q) rfl rfl (by omega) (by omega)⟩, fun _ _ _ _ _ _ _ q => absurd rfl q⟩⟩
    · exact ⟨0, by omega, fun _ => ⟨j, hj, rfl, q0⟩, fun Q hQ => H_9 gi hj (fun q => absurd q q0) (fun _ => hQ), fun Q h0 h1 => ⟨v0, fun q => absurd q (by decide), fun q => absurd q (by decide), fun q => absurd q (by decide), fun q => absurd q (by decide), fun q => absurd q (by decide), fun q => absurd q (by decide), fun q => absurd q (by decide), fun _ => ⟨v2, v16, pk_eq (α 6 j) 0 (fun q => absurd q q0) (fun _ => h0 rfl) rfl rfl (by omega) (by omega)⟩, fun _ _ _ _ _ _ _ q => absurd rfl q⟩⟩
  | 10, _, _ => exact ⟨0, by omega, fun _ => trivial, fun Q hQ => H0 (i := 10) (by omega) (by omega) (by omega) (by omega) (H45 (by omega) (by omega) (H64 (by omega) (by omega) (H86 (by omega) (by omega) (H100 (by omega) (by omega) hQ)))), fun Q h0 h1 => ⟨v0, fun q => absurd q (by decide), fun q => absurd q (by decide), fun q => absurd q (by decide), fun q => absurd q (by decide), fun q => absurd q (by decide), fun q => absurd q (by decide), fun q => absurd q (by decide), fun q => absurd q (by decide), fun _ _ _ _ _ _ _ _ => h0 rfl⟩⟩
  | 11, _, _ => exact ⟨0, by omega, fun _ => trivial, fun Q hQ => H0 (i := 11) (by omega) (by omega) (by omega) (by omega) (H45 (by omega) (by omega) (H64 (by omega) (by omega) (H86 (by omega) (by omega) (H100 (by omega) (by omega) hQ)))), fun Q h0 h1 => ⟨v0, fun q => absurd q (by decide), fun q => absurd q (by decide), fun q => absurd q (by decide), fun q => absurd q (by decide), fun q => absurd q (by decide), fun q => absurd q (by decide), fun q => absurd q (by decide), fun q => absurd q (by decide), fun _ _ _ _ _ _ _ _ => h0 rfl⟩⟩
  | 12, _, _ => exact ⟨0, by omega, fun _ => trivial, fun Q hQ => H0 (i := 12) (by omega) (by omega) (by omega) (by omega) (H45 (by omega) (by omega) (H64 (by omega) (by omega) (H86 (by omega) (by omega) (H100 (by omega) (by omega) hQ)))), fun Q h0 h1 => ⟨v0, fun q => absurd q (by decide), fun q => absurd q (by decide), fun q => absurd q (by decide), fun q => absurd q (by decide), fun q => absurd q (by decide), fun q => absurd q (by decide), fun q => absurd q (by decide), fun q => absurd q (by decide), fun _ _ _ _ _ _ _ _ => h0 rfl⟩⟩
  | 13, _, _ => exact ⟨0, by omega, fun _ => trivial, fun Q hQ => H0 (i := 13) (by omega) (by omega) (by omega) (by omega) (H45 (by omega) (by omega) (H64 (by omega) (by omega) (H86 (by omega) (by omega) (H100 (by omega) (by omega) hQ)))), fun Q h0 h1 => ⟨v0, fun q => absurd q (by decide), fun q => absurd q (by decide), fun q => absurd q (by decide), fun q => absurd q (by decide), fun q => absurd q (by decide), fun q => absurd q (by decide), fun q => absurd q (by decide), fun q => absurd q (by decide), fun _ _ _ _ _ _ _ _ => h0 rfl⟩⟩
  | 14, _, _ => exact ⟨0, by omega, fun _ => trivial, fun Q hQ => H0 (i := 14) (by omega) (by omega) (by omega) (by omega) (H45 (by omega) (by omega) (H64 (by omega) (by omega) (H86 (by omega) (by omega) (H100 (by omega) (by omega) hQ)))), fun Q h0 h1 => ⟨v0, fun q => absurd q (by decide), fun q => absurd q (by decide), fun q => absurd q (by decide), fun q => absurd q (by decide), fun q => absurd q (by decide), fun q => absurd q (by decide), fun q => absurd q (by decide), fun q => absurd q (by decide), fun _ _ _ _ _ _ _ _ => h0 rfl⟩⟩
end PO11
