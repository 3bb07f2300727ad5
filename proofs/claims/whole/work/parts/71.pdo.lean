/-! THE PURE PART: one instruction, done by both -/
def sA (α : Nat → Nat → Nat) : Nat → Nat → Nat := upN α 0 26 (α 0 26 + 1)
def sS (α : Nat → Nat → Nat) (S : Nat → Nat → Int32) : Nat → Nat → Int32 := up2 S 2 5 (nI (α 0 26 + 1))
def DOs (n : Nat → Nat) (s b : Nat) (α : Nat → Nat → Nat) (S : Nat → Nat → Int32) (p i : Nat) (a b' c : Int32) : Prop := ∃ α2 z2 S2 r, Gi s b 0 α2 z2 0 0 (fun _ => True) ∧ RS s 0 α2 z2 S2 ∧ α2 0 0 = α 0 0 ∧ α2 0 29 = α 0 29 ∧ r ≤ α 0 29 ∧ (∀ Q : Int32 → (Nat → Nat → Int32) → Prop, (∀ T', up2 T' 0 26 (T' 0 26 + 1) = nR α2 → Q (nI r) T') → wX5_does (nI p) (nI i) a b' c (nR α) Q) ∧ (∀ Q : Int32 → (Nat → Nat → Int32) → Prop, Q (-1) (up2 S2 2 4 (nI r)) → wX2_step_b115 n c b' a (nI i) S Q)
theorem upN_comm {α : Nat → Nat → Nat} {k i v k' i' v' : Nat} (h : k ≠ k' ∨ i ≠ i') : upN (upN α k i v) k' i' v' = upN (upN α k' i' v') k i v := by
  funext j m
  rw [upN_get, upN_get, upN_get, upN_get]
  by_cases e : j = k ∧ m = i
  · rw [if_pos e, if_pos e, if_neg (by omega)]
  · rw [if_neg e, if_neg e]
section PO12
variable {s b : Nat} {α : Nat → Nat → Nat} {z : Nat → Nat} {S T : Nat → Nat → Int32} {n : Nat → Nat} {a b' c : Int32} {p : Nat}
theorem sA_Gi (gi : Gi s b 0 α z 0 0 (fun _ => True)) : Gi s b 0 (sA α) z 0 0 (fun _ => True) := gi
theorem sA_RS (gr : RS s 0 α z S) : RS s 0 (sA α) z (sS α S) := by
  have rm := gr.2.2.2.2.2
  refine RS_MF (α := α) (S := S) ⟨fun k h0 h1 h2 => ?_, fun i h0 h1 h2 h3 => ?_⟩ (fun k h1 h2 h3 => ?_) gr ?_
  · exact upN_row _ h0
  · exact upN_ne _ (Or.inr h1)
  · exact up2_row _ h1
  · exact ⟨rm.1, rm.2.1, rfl, rm.2.2.2.1, rm.2.2.2.2⟩
theorem set17 {j v : Nat} (gi : Gi s b 0 α z 0 0 (fun _ => True)) (gr : RS s 0 α z S) : Gi s b 0 (upN α 17 j v) z 0 0 (fun _ => True) ∧ RS s 0 (upN α 17 j v) z (up2 S 28 j (nI v)) := by
  have rm := gr.2.2.2.2.2
  refine ⟨gi, RS_MF (α := α) (S := S) ⟨fun k h0 h1 h2 => ?_, fun i h0 h1 h2 h3 => ?_⟩ (fun k h1 h2 h3 => ?_) gr ?_⟩
  · exact upN_row _ h1
  · exact upN_ne _ (Or.inl (by omega))
  · exact up2_row _ h3
  · exact ⟨rm.1, rm.2.1, rm.2.2.1, rm.2.2.2.1, rl_up (k := 28) (k' := 17) rm.2.2.2.2⟩
theorem st_1 {k j v : Nat} (h : k ≠ 0) : up2 (nR (upN α k j v)) 0 26 (nR (upN α k j v) 0 26 + 1) = nR (upN (sA α) k j v) := by
  have e : nR (upN α k j v) 0 26 = nI (α 0 26) := by rw [nR_at, upN_ne _ (Or.inl (by omega))]
  rw [e, nI_1, up2_nR, upN_comm (Or.inl h)]
  rfl
theorem st_0 : up2 (nR α) 0 26 (nR α 0 26 + 1) = nR (sA α) := by
  rw [nR_at, nI_1, up2_nR]
  rfl
theorem C_b115 {i : Nat} (hi0 : i ≠ 0) (hi : i < 15) (h25 : S 2 5 = nI (α 0 26)) {Q : Int32 → (Nat → Nat → Int32) → Prop} (h : wX2_change n (nI i) a b' c (sS α S) (fun _ S16 => wX2_goesOnAt n (nI i) a b' c S16 (fun r17 S18 => ∀ S19, S19 = up2 S18 2 4 r17 → Q (-1) S19))) : wX2_step_b115 n c b' a (nI i) S Q := by
  unfold wX2_step_b115
  rw [h25, nI_1]
  rintro S12 rfl
  exact ⟨fun q => absurd q (li_ne (k := 0) hi (by omega) hi0), fun _ => h⟩
theorem go_next {i : Nat} (hi : i < 15) (h10 : i < 10 ∨ i = 14) (h24 : S 2 4 = nI p) {Q : Int32 → (Nat → Nat → Int32) → Prop} (h : Q (nI (p + 1)) S) : wX2_goesOnAt n (nI i) a b' c S Q := by
  refine ⟨fun q => absurd q (li_ne (k := 10) hi (by omega) (by omega)), fun q => absurd q (li_ne (k := 11) hi (by omega) (by omega)), fun q => absurd q (li_ne (k := 12) hi (by omega) (by omega)), fun q => absurd q (li_ne (k := 13) hi (by omega) (by omega)), fun _ _ _ _ => ?_⟩
  rw [h24, nI_1]
  exact h
theorem D_2 (hN : LN n s b) (gi : Gi s b 0 α z 0 0 (fun _ => True)) (gr : RS s 0 α z S) (hp : p < α 0 29) (h27 : α 0 27 = p) (h29 : α 0 29 ≤ 64) (h6 : c = -1 ∨ IX 16 c) (hF : HF α a b' c 2) : DOs n s b α S p 2 a b' c := by
  have hs1 := gi.1.1.2.1
  have hn26 : n 26 = 1 + 14 * s := hN.2.2.2.2.2.2.2.2.2.2.1
  have n28 : n 28 = 8 := hN.2.2.2.2.2.2.2.2.2.2.2.2
  have rm := gr.2.2.2.2.2
  have h24 : S 2 4 = nI p := by rw [← h27]; exact rm.2.1
  have h25 : S 2 5 = nI (α 0 26) := rm.2.2.1
  have gi1 := sA_Gi gi
  have gr1 := sA_RS gr
  obtain ⟨j, m, hj, rfl, h0, hm, rfl⟩ := hF
  have ho := root_o gi hj h0
  have hol := U_lt gi.1 ho.1
  have hf := fld gi ho hm
  have hfu := FU_in gi.1 gi.2.2.1 hf
  have hfl := U_lt gi.1 hfu.1
  obtain ⟨v, hv, mr, cr⟩ := R_orN hN gi1 gr1 h6
  obtain ⟨α', S', i1, i2, i3, i4, i5, i6⟩ := J_store hN gi1 gr1 hf hv
  have e2 : (nI (α 6 j) + 2) + nI m = nI (α 6 j + 2 + m) := by
    rw [show (2 : Int32) = nI 2 from rfl, nI_add, nI_add]
  refine ⟨α', z, S', p + 1, i1, i2, i3.1, i3.2.2, by omega, fun Q hQ => ?_, fun Q hQ => C_b115 (α := α) (by omega) (by omega) h25 ?_⟩
  · unfold wX5_does
    rintro x1 rfl
    rw [nI_1]
    refine ⟨fun q => absurd q (by decide), ?_, fun q => absurd q (by decide), fun q => absurd q (by decide), fun q => absurd q (by decide), fun q => absurd q (by decide), fun q => absurd q (by decide), fun q => absurd q (by decide), fun q => absurd q (by decide), fun q => absurd q (by decide), fun q => absurd q (by decide), fun q => absurd q (by decide), fun q => absurd q (by decide), fun q => absurd q (by decide), fun _ q _ _ _ _ _ _ _ _ _ _ _ _ => absurd rfl q⟩
    intro _
    rw [nI_clamp (show j < 2 ^ 31 by omega), nR_at, e2]
    refine ⟨(vp_nI (by omega)).mpr hj, ?_⟩
    refine mr (fun x => wX5_does_b165 (nI p) (nI 2) (nI j) (nI m) c (nI (p + 1)) x (nI (α 6 j + 2 + m)) (nR α) Q) ?_
    unfold wX5_does_b165
    refine sto26 (x := nI (α 0 26 + 1)) (Q := fun _ T => T = nR α') (fun T' e g => hQ T' ?_) ?_
    · rw [e, nR_at, nI_1]
      exact g
    · have e6 : U6 (nI (α 0 26 + 1)) (nR α) = nR (sA α) := up2_nR _ _ _ _
      rw [e6]
      exact i5 _ rfl
  · refine ⟨?_, fun q => absurd q (by decide), fun q => absurd q (by decide), fun q => absurd q (by decide), fun q => absurd q (by decide), fun q => absurd q (by decide), fun q => absurd q (by decide), fun q => absurd q (by decide), fun q _ _ _ _ _ _ _ => absurd rfl q⟩
    intro _
    have e16 : sS α S 16 (nI j).toNatClampNeg = nI (α 6 j) := by
      rw [nI_clamp (show j < 2 ^ 31 by omega)]
      exact gr.2.1.1.2 j hj
    rw [e16]
    refine ⟨(vp_nI (by omega)).mpr (by rw [hN.1]; exact hj), cr _ (i6 _ _ _ e2 ?_)⟩
    refine go_next (i := 2) (p := p) (by omega) (by omega) ?_ ?_
    · rw [i2.2.2.2.2.2.2.1, i3.2.1, ← h27]
      rfl
    · rintro S19 rfl
      exact hQ
theorem D_3 (hN : LN n s b) (gi : Gi s b 0 α z 0 0 (fun _ => True)) (gr : RS s 0 α z S) (hp : p < α 0 29) (h27 : α 0 27 = p) (h29 : α 0 29 ≤ 64) (ha : IX 16 a) (hF : HF α a b' c 3) : DOs n s b α S p 3 a b' c := by
  have hs1 := gi.1.1.2.1
  have hn26 : n 26 = 1 + 14 * s := hN.2.2.2.2.2.2.2.2.2.2.1
  have n28 : n 28 = 8 := hN.2.2.2.2.2.2.2.2.2.2.2.2
  have rm := gr.2.2.2.2.2
  have h24 : S 2 4 = nI p := by rw [← h27]; exact rm.2.1
  have h25 : S 2 5 = nI (α 0 26) := rm.2.2.1
  have gi1 := sA_Gi gi
  have gr1 := sA_RS gr
  obtain ⟨k, hk, rfl⟩ := ha
  obtain ⟨j, m, hj, rfl, h0, hm, rfl⟩ := hF
  have ho := root_o gi hj h0
  have hol := U_lt gi.1 ho.1
  have hf := fld gi ho hm
  have hfu := FU_in gi.1 gi.2.2.1 hf
  have hfl := U_lt gi.1 hfu.1
  have hvv := FU_V gi.2.2.2.1 hf
  obtain ⟨c1, c2⟩ := set6 (k := k) (v := α 1 (α 6 j + 2 + m)) gi1 gr1 hvv
  have e2 : (nI (α 6 j) + 2) + nI m = nI (α 6 j + 2 + m) := by
    rw [show (2 : Int32) = nI 2 from rfl, nI_add, nI_add]
  refine ⟨_, z, _, p + 1, c1, c2, rfl, rfl, by omega, fun Q hQ => ?_, fun Q hQ => C_b115 (α := α) (by omega) (by omega) h25 ?_⟩
  · unfold wX5_does
    rintro x1 rfl
    rw [nI_1]
    refine ⟨fun q => absurd q (by decide), fun q => absurd q (by decide), ?_, fun q => absurd q (by decide), fun q => absurd q (by decide), fun q => absurd q (by decide), fun q => absurd q (by decide), fun q => absurd q (by decide), fun q => absurd q (by decide), fun q => absurd q (by decide), fun q => absurd q (by decide), fun q => absurd q (by decide), fun q => absurd q (by decide), fun q => absurd q (by decide), fun _ _ q _ _ _ _ _ _ _ _ _ _ _ => absurd rfl q⟩
    intro _
    rw [nI_clamp (show j < 2 ^ 31 by omega), nI_clamp (show k < 2 ^ 31 by omega), nR_at, e2, nI_clamp (show α 6 j + 2 + m < 2 ^ 31 by omega), nR_at, up2_nR]
    refine ⟨(vp_nI (by omega)).mpr hj, (vp_nI (by omega)).mpr (by omega), (vp_nI (by omega)).mpr hk, ?_⟩
    rintro S8 rfl
    exact hQ _ (st_1 (by omega))
  · refine ⟨fun q => absurd q (by decide), ?_, fun q => absurd q (by decide), fun q => absurd q (by decide), fun q => absurd q (by decide), fun q => absurd q (by decide), fun q => absurd q (by decide), fun q => absurd q (by decide), fun _ q _ _ _ _ _ _ => absurd rfl q⟩
    intro _
    have e16 : sS α S 16 (nI j).toNatClampNeg = nI (α 6 j) := by
      rw [nI_clamp (show j < 2 ^ 31 by omega)]
      exact gr.2.1.1.2 j hj
    have e26 : sS α S 26 (α 6 j + 2 + m) = nI (α 1 (α 6 j + 2 + m)) := w26 gi.1 gr hfu.1
    unfold wX1_fieldOf
    rw [e16, e2, nI_clamp (show k < 2 ^ 31 by omega), nI_clamp (show α 6 j + 2 + m < 2 ^ 31 by omega), e26]
    refine ⟨(vp_nI (by omega)).mpr (by rw [hN.1]; exact hj), (vp_nI (by omega)).mpr (by omega), (vp_nI (by omega)).mpr (by rw [hN.1]; exact hk), ?_⟩
    rintro S9 rfl
    refine go_next (i := 3) (p := p) (by omega) (by omega) (by exact h24) ?_
    rintro S19 rfl
    exact hQ
theorem D_4 (hN : LN n s b) (gi : Gi s b 0 α z 0 0 (fun _ => True)) (gr : RS s 0 α z S) (hp : p < α 0 29) (h27 : α 0 27 = p) (h29 : α 0 29 ≤ 64) (ha : IX 16 a) (h6 : b' = -1 ∨ IX 16 b') : DOs n s b α S p 4 a b' c := by
  have hs1 := gi.1.1.2.1
  have hn26 : n 26 = 1 + 14 * s := hN.2.2.2.2.2.2.2.2.2.2.1
  have n28 : n 28 = 8 := hN.2.2.2.2.2.2.2.2.2.2.2.2
  have rm := gr.2.2.2.2.2
  have h24 : S 2 4 = nI p := by rw [← h27]; exact rm.2.1
  have h25 : S 2 5 = nI (α 0 26) := rm.2.2.1
  have gi1 := sA_Gi gi
  have gr1 := sA_RS gr
  obtain ⟨k, hk, rfl⟩ := ha
  obtain ⟨v, hv, mr, cr⟩ := R_orN hN gi1 gr1 h6
  obtain ⟨c1, c2⟩ := set6 (k := k) (v := v) gi1 gr1 hv
  refine ⟨_, z, _, p + 1, c1, c2, rfl, rfl, by omega, fun Q hQ => ?_, fun Q hQ => C_b115 (α := α) (by omega) (by omega) h25 ?_⟩
  · unfold wX5_does
    rintro x1 rfl
    rw [nI_1]
    refine ⟨fun q => absurd q (by decide), fun q => absurd q (by decide), fun q => absurd q (by decide), ?_, fun q => absurd q (by decide), fun q => absurd q (by decide), fun q => absurd q (by decide), fun q => absurd q (by decide), fun q => absurd q (by decide), fun q => absurd q (by decide), fun q => absurd q (by decide), fun q => absurd q (by decide), fun q => absurd q (by decide), fun q => absurd q (by decide), fun _ _ _ q _ _ _ _ _ _ _ _ _ _ => absurd rfl q⟩
    intro _
    refine mr (fun x => wX5_does_b219 (nI p) (nI 4) (nI k) b' c (nI (p + 1)) x (nI k) (nR α) Q) ?_
    unfold wX5_does_b219
    rw [nI_clamp (show k < 2 ^ 31 by omega), up2_nR]
    refine ⟨(vp_nI (by omega)).mpr hk, ?_⟩
    rintro S46 rfl
    exact hQ _ (st_1 (by omega))
  · refine ⟨fun q => absurd q (by decide), fun q => absurd q (by decide), ?_, fun q => absurd q (by decide), fun q => absurd q (by decide), fun q => absurd q (by decide), fun q => absurd q (by decide), fun q => absurd q (by decide), fun _ _ q _ _ _ _ _ => absurd rfl q⟩
    intro _
    refine cr _ ⟨(vp_nI (by omega)).mpr (by rw [hN.1]; exact hk), ?_⟩
    rw [nI_clamp (show k < 2 ^ 31 by omega)]
    rintro S14 rfl
    refine go_next (i := 4) (p := p) (by omega) (by omega) (by exact h24) ?_
    rintro S19 rfl
    exact hQ
theorem D_5 (hN : LN n s b) (gi : Gi s b 0 α z 0 0 (fun _ => True)) (gr : RS s 0 α z S) (hp : p < α 0 29) (h27 : α 0 27 = p) (h29 : α 0 29 ≤ 64) (ha : IX 16 a) (hF : α 0 9 ≠ 40) : DOs n s b α S p 5 a b' c := by
  have hs1 := gi.1.1.2.1
  have hn26 : n 26 = 1 + 14 * s := hN.2.2.2.2.2.2.2.2.2.2.1
  have n28 : n 28 = 8 := hN.2.2.2.2.2.2.2.2.2.2.2.2
  have rm := gr.2.2.2.2.2
  have h24 : S 2 4 = nI p := by rw [← h27]; exact rm.2.1
  have h25 : S 2 5 = nI (α 0 26) := rm.2.2.1
  have gi1 := sA_Gi gi
  have gr1 := sA_RS gr
  have h40 : α 0 9 ≤ 40 := gi.2.2.2.2.2.1.2.1
  obtain ⟨k, hk, rfl⟩ := ha
  obtain ⟨c1, c2⟩ := add7 (v := α 6 k) gi1 gr1 (by show α 0 9 < 40; omega) (gi1.2.2.2.2.2.1.1 k hk)
  refine ⟨_, z, _, p + 1, c1, c2, rfl, rfl, by omega, fun Q hQ => ?_, fun Q hQ => C_b115 (α := α) (by omega) (by omega) h25 ?_⟩
  · unfold wX5_does
    rintro x1 rfl
    rw [nI_1]
    refine ⟨fun q => absurd q (by decide), fun q => absurd q (by decide), fun q => absurd q (by decide), fun q => absurd q (by decide), ?_, fun q => absurd q (by decide), fun q => absurd q (by decide), fun q => absurd q (by decide), fun q => absurd q (by decide), fun q => absurd q (by decide), fun q => absurd q (by decide), fun q => absurd q (by decide), fun q => absurd q (by decide), fun q => absurd q (by decide), fun _ _ _ _ q _ _ _ _ _ _ _ _ _ => absurd rfl q⟩
    intro _
    rw [nI_clamp (show k < 2 ^ 31 by omega), nR_at, nR_at, nI_clamp (show α 0 9 < 2 ^ 31 by omega), up2_nR]
    refine ⟨(vp_nI (by omega)).mpr hk, (vp_nI (by omega)).mpr (by omega), ?_⟩
    rintro S13 rfl S15 rfl
    have e9 : nR (upN α 7 (α 0 9) (α 6 k)) 0 9 = nI (α 0 9) := rfl
    rw [e9, nI_1, up2_nR]
    refine hQ _ ?_
    have e26 : nR (upN (upN α 7 (α 0 9) (α 6 k)) 0 9 (α 0 9 + 1)) 0 26 = nI (α 0 26) := rfl
    rw [e26, nI_1, up2_nR, upN_comm (Or.inr (by omega)), upN_comm (α := α) (Or.inl (by omega))]
    rfl
  · refine ⟨fun q => absurd q (by decide), fun q => absurd q (by decide), fun q => absurd q (by decide), ?_, fun q => absurd q (by decide), fun q => absurd q (by decide), fun q => absurd q (by decide), fun q => absurd q (by decide), fun _ _ _ q _ _ _ _ => absurd rfl q⟩
    intro _
    have e16 : sS α S 16 (nI k).toNatClampNeg = nI (α 6 k) := by
      rw [nI_clamp (show k < 2 ^ 31 by omega)]
      exact gr.2.1.1.2 k hk
    rw [e16]
    refine ⟨(vp_nI (by omega)).mpr (by rw [hN.1]; exact hk), ?_⟩
    have e71 : sS α S 7 1 = nI (α 0 9) := gr.2.1.2.1.1
    refine C_add (cnt := α 0 9) e71 (by show α 0 9 < n 17; rw [hN.2.1]; omega) (by show n 17 < 2 ^ 20; rw [hN.2.1]; omega) ?_
    refine go_next (i := 5) (p := p) (by omega) (by omega) (by exact h24) ?_
    rintro S19 rfl
    exact hQ
theorem D_6 (hN : LN n s b) (gi : Gi s b 0 α z 0 0 (fun _ => True)) (gr : RS s 0 α z S) (hp : p < α 0 29) (h27 : α 0 27 = p) (h29 : α 0 29 ≤ 64) (ha : IX 16 a) (hF : α 0 9 ≠ 0) : DOs n s b α S p 6 a b' c := by
  have hs1 := gi.1.1.2.1
  have hn26 : n 26 = 1 + 14 * s := hN.2.2.2.2.2.2.2.2.2.2.1
  have n28 : n 28 = 8 := hN.2.2.2.2.2.2.2.2.2.2.2.2
  have rm := gr.2.2.2.2.2
  have h24 : S 2 4 = nI p := by rw [← h27]; exact rm.2.1
  have h25 : S 2 5 = nI (α 0 26) := rm.2.2.1
  have gi1 := sA_Gi gi
  have gr1 := sA_RS gr
  have h40 : α 0 9 ≤ 40 := gi.2.2.2.2.2.1.2.1
  obtain ⟨k, hk, rfl⟩ := ha
  obtain ⟨c1, c2⟩ := sub7 gi1 gr1
  have hvv : VV s 0 (sA α) z (α 7 (α 0 9 - 1)) := gi1.2.2.2.2.2.1.2.2.1 _ (by show α 0 9 - 1 < α 0 9; omega)
  obtain ⟨d1, d2⟩ := set6 (k := k) (v := α 7 (α 0 9 - 1)) c1 c2 hvv
  refine ⟨_, z, _, p + 1, d1, d2, rfl, rfl, by omega, fun Q hQ => ?_, fun Q hQ => C_b115 (α := α) (by omega) (by omega) h25 ?_⟩
  · unfold wX5_does
    rintro x1 rfl
    rw [nI_1]
    refine ⟨fun q => absurd q (by decide), fun q => absurd q (by decide), fun q => absurd q (by decide), fun q => absurd q (by decide), fun q => absurd q (by decide), ?_, fun q => absurd q (by decide), fun q => absurd q (by decide), fun q => absurd q (by decide), fun q => absurd q (by decide), fun q => absurd q (by decide), fun q => absurd q (by decide), fun q => absurd q (by decide), fun q => absurd q (by decide), fun _ _ _ _ _ q _ _ _ _ _ _ _ _ => absurd rfl q⟩
    intro _
    rw [nR_at, show (1 : Int32) = nI 1 from rfl, pk_sub (by omega), up2_nR, nI_clamp (show k < 2 ^ 31 by omega)]
    rintro S18 rfl
    have e9 : nR (upN α 0 9 (α 0 9 - 1)) 0 9 = nI (α 0 9 - 1) := rfl
    rw [e9, nI_clamp (show α 0 9 - 1 < 2 ^ 31 by omega), nR_at, show upN α 0 9 (α 0 9 - 1) 7 (α 0 9 - 1) = α 7 (α 0 9 - 1) from rfl, up2_nR]
    refine ⟨(vp_nI (by omega)).mpr (by omega), (vp_nI (by omega)).mpr hk, ?_⟩
    rintro S20 rfl
    refine hQ _ ?_
    have e26 : nR (upN (upN α 0 9 (α 0 9 - 1)) 6 k (α 7 (α 0 9 - 1))) 0 26 = nI (α 0 26) := rfl
    rw [e26, nI_1, up2_nR, upN_comm (Or.inl (by omega)), upN_comm (α := α) (Or.inr (by omega))]
    rfl
  · refine ⟨fun q => absurd q (by decide), fun q => absurd q (by decide), fun q => absurd q (by decide), fun q => absurd q (by decide), ?_, fun q => absurd q (by decide), fun q => absurd q (by decide), fun q => absurd q (by decide), fun _ _ _ _ q _ _ _ => absurd rfl q⟩
    intro _
    have e71 : sS α S 7 1 = nI (α 0 9) := gr.2.1.2.1.1
    unfold wX3_takeLast
    rw [e71]
    refine pk_eq (α 0 9) 0 (fun q => absurd q hF) (fun _ => ?_) rfl rfl (by omega) (by omega)
    rw [show (1 : Int32) = nI 1 from rfl, pk_sub (by omega)]
    rintro S2 rfl
    rw [show (nI 1 : Int32) = 1 from rfl, up2_hit, nI_clamp (show α 0 9 - 1 < 2 ^ 31 by omega), nI_clamp (show k < 2 ^ 31 by omega), up2_row _ (show 7 + 10 ≠ 7 by omega), show sS α S (7 + 10) (α 0 9 - 1) = nI (α 7 (α 0 9 - 1)) from gr.2.1.2.1.2 _ (by omega)]
    refine ⟨(vp_nI (by omega)).mpr (by show α 0 9 - 1 < n 17; rw [hN.2.1]; omega), (vp_nI (by omega)).mpr (by rw [hN.1]; exact hk), ?_⟩
    rintro S22 rfl
    refine go_next (i := 6) (p := p) (by omega) (by omega) (by exact h24) ?_
    rintro S19 rfl
    exact hQ
theorem D_7 (hN : LN n s b) (gi : Gi s b 0 α z 0 0 (fun _ => True)) (gr : RS s 0 α z S) (hp : p < α 0 29) (h27 : α 0 27 = p) (h29 : α 0 29 ≤ 64) (ha : IX 8 a) : DOs n s b α S p 7 a b' c := by
  have hs1 := gi.1.1.2.1
  have hn26 : n 26 = 1 + 14 * s := hN.2.2.2.2.2.2.2.2.2.2.1
  have n28 : n 28 = 8 := hN.2.2.2.2.2.2.2.2.2.2.2.2
  have rm := gr.2.2.2.2.2
  have h24 : S 2 4 = nI p := by rw [← h27]; exact rm.2.1
  have h25 : S 2 5 = nI (α 0 26) := rm.2.2.1
  have gi1 := sA_Gi gi
  have gr1 := sA_RS gr
  obtain ⟨k, hk, rfl⟩ := ha
  obtain ⟨v, rfl⟩ := nI_any b'
  obtain ⟨c1, c2⟩ := set17 (j := k) (v := v) gi1 gr1
  refine ⟨_, z, _, p + 1, c1, c2, rfl, rfl, by omega, fun Q hQ => ?_, fun Q hQ => C_b115 (α := α) (by omega) (by omega) h25 ?_⟩
  · unfold wX5_does
    rintro x1 rfl
    rw [nI_1]
    refine ⟨fun q => absurd q (by decide), fun q => absurd q (by decide), fun q => absurd q (by decide), fun q => absurd q (by decide), fun q => absurd q (by decide), fun q => absurd q (by decide), ?_, fun q => absurd q (by decide), fun q => absurd q (by decide), fun q => absurd q (by decide), fun q => absurd q (by decide), fun q => absurd q (by decide), fun q => absurd q (by decide), fun q => absurd q (by decide), fun _ _ _ _ _ _ q _ _ _ _ _ _ _ => absurd rfl q⟩
    intro _
    rw [nI_clamp (show k < 2 ^ 31 by omega), up2_nR]
    refine ⟨(vp_nI (by omega)).mpr hk, ?_⟩
    rintro S23 rfl
    exact hQ _ (st_1 (by omega))
  · refine ⟨fun q => absurd q (by decide), fun q => absurd q (by decide), fun q => absurd q (by decide), fun q => absurd q (by decide), fun q => absurd q (by decide), ?_, fun q => absurd q (by decide), fun q => absurd q (by decide), fun _ _ _ _ _ q _ _ => absurd rfl q⟩
    intro _
    rw [nI_clamp (show k < 2 ^ 31 by omega), n28]
    refine ⟨(vp_nI (by omega)).mpr hk, ?_⟩
    rintro S25 rfl
    refine go_next (i := 7) (p := p) (by omega) (by omega) (by exact h24) ?_
    rintro S19 rfl
    exact hQ
theorem D_8 (hN : LN n s b) (gi : Gi s b 0 α z 0 0 (fun _ => True)) (gr : RS s 0 α z S) (hp : p < α 0 29) (h27 : α 0 27 = p) (h29 : α 0 29 ≤ 64) (ha : IX 8 a) (hb : IX 8 b') (hc : IX 8 c) : DOs n s b α S p 8 a b' c := by
  have hs1 := gi.1.1.2.1
  have hn26 : n 26 = 1 + 14 * s := hN.2.2.2.2.2.2.2.2.2.2.1
  have n28 : n 28 = 8 := hN.2.2.2.2.2.2.2.2.2.2.2.2
  have rm := gr.2.2.2.2.2
  have h24 : S 2 4 = nI p := by rw [← h27]; exact rm.2.1
  have h25 : S 2 5 = nI (α 0 26) := rm.2.2.1
  have gi1 := sA_Gi gi
  have gr1 := sA_RS gr
  obtain ⟨k, hk, rfl⟩ := ha
  obtain ⟨j1, hj1, rfl⟩ := hb
  obtain ⟨j2, hj2, rfl⟩ := hc
  obtain ⟨c1, c2⟩ := set17 (j := k) (v := α 17 j1 + α 17 j2) gi1 gr1
  refine ⟨_, z, _, p + 1, c1, c2, rfl, rfl, by omega, fun Q hQ => ?_, fun Q hQ => C_b115 (α := α) (by omega) (by omega) h25 ?_⟩
  · unfold wX5_does
    rintro x1 rfl
    rw [nI_1]
    refine ⟨fun q => absurd q (by decide), fun q => absurd q (by decide), fun q => absurd q (by decide), fun q => absurd q (by decide), fun q => absurd q (by decide), fun q => absurd q (by decide), fun q => absurd q (by decide), ?_, fun q => absurd q (by decide), fun q => absurd q (by decide), fun q => absurd q (by decide), fun q => absurd q (by decide), fun q => absurd q (by decide), fun q => absurd q (by decide), fun _ _ _ _ _ _ _ q _ _ _ _ _ _ => absurd rfl q⟩
    intro _
    rw [nI_clamp (show k < 2 ^ 31 by omega), nI_clamp (show j1 < 2 ^ 31 by omega), nI_clamp (show j2 < 2 ^ 31 by omega), nR_at, nR_at, nI_add, up2_nR]
    refine ⟨(vp_nI (by omega)).mpr hj1, (vp_nI (by omega)).mpr hj2, (vp_nI (by omega)).mpr hk, ?_⟩
    rintro S26 rfl
    exact hQ _ (st_1 (by omega))
  · refine ⟨fun q => absurd q (by decide), fun q => absurd q (by decide), fun q => absurd q (by decide), fun q => absurd q (by decide), fun q => absurd q (by decide), fun q => absurd q (by decide), ?_, fun q => absurd q (by decide), fun _ _ _ _ _ _ q _ => absurd rfl q⟩
    intro _
    have e1 : sS α S 28 j1 = nI (α 17 j1) := rm.2.2.2.2 j1 hj1
    have e2 : sS α S 28 j2 = nI (α 17 j2) := rm.2.2.2.2 j2 hj2
    rw [nI_clamp (show k < 2 ^ 31 by omega), nI_clamp (show j1 < 2 ^ 31 by omega), nI_clamp (show j2 < 2 ^ 31 by omega), n28, e1, e2, nI_add]
    refine ⟨(vp_nI (by omega)).mpr hj1, (vp_nI (by omega)).mpr hj2, (vp_nI (by omega)).mpr hk, ?_⟩
    rintro S25 rfl
    refine go_next (i := 8) (p := p) (by omega) (by omega) (by exact h24) ?_
    rintro S19 rfl
    exact hQ
theorem D_9 (hN : LN n s b) (gi : Gi s b 0 α z 0 0 (fun _ => True)) (gr : RS s 0 α z S) (hp : p < α 0 29) (h27 : α 0 27 = p) (h29 : α 0 29 ≤ 64) (ha : IX 8 a) (hF : HF α a b' c 9) : DOs n s b α S p 9 a b' c := by
  have hs1 := gi.1.1.2.1
  have hn26 : n 26 = 1 + 14 * s := hN.2.2.2.2.2.2.2.2.2.2.1
  have n28 : n 28 = 8 := hN.2.2.2.2.2.2.2.2.2.2.2.2
  have rm := gr.2.2.2.2.2
  have h24 : S 2 4 = nI p := by rw [← h27]; exact rm.2.1
  have h25 : S 2 5 = nI (α 0 26) := rm.2.2.1
  have gi1 := sA_Gi gi
  have gr1 := sA_RS gr
  obtain ⟨k, hk, rfl⟩ := ha
  obtain ⟨j, hj, rfl, h0⟩ := hF
  have ho := root_o gi hj h0
  have hz2 := OU_pz gi.2.2.1 ho
  have hlab := (OU_in gi.1 gi.2.2.1 ho (show 1 < z (α 6 j) by omega)).2
  have hlabl := U_lt gi.1 hlab
  obtain ⟨c1, c2⟩ := set17 (j := k) (v := α 1 (α 6 j + 1)) gi1 gr1
  refine ⟨_, z, _, p + 1, c1, c2, rfl, rfl, by omega, fun Q hQ => ?_, fun Q hQ => C_b115 (α := α) (by omega) (by omega) h25 ?_⟩
  · unfold wX5_does
    rintro x1 rfl
    rw [nI_1]
    refine ⟨fun q => absurd q (by decide), fun q => absurd q (by decide), fun q => absurd q (by decide), fun q => absurd q (by decide), fun q => absurd q (by decide), fun q => absurd q (by decide), fun q => absurd q (by decide), fun q => absurd q (by decide), ?_, fun q => absurd q (by decide), fun q => absurd q (by decide), fun q => absurd q (by decide), fun q => absurd q (by decide), fun q => absurd q (by decide), fun _ _ _ _ _ _ _ _ q _ _ _ _ _ => absurd rfl q⟩
    intro _
    rw [nI_clamp (show k < 2 ^ 31 by omega), nI_clamp (show j < 2 ^ 31 by omega), nR_at, nI_1, nI_clamp (show α 6 j + 1 < 2 ^ 31 by omega), nR_at, up2_nR]
    refine ⟨(vp_nI (by omega)).mpr hj, (vp_nI (by omega)).mpr (by omega), (vp_nI (by omega)).mpr hk, ?_⟩
    rintro S29 rfl
    exact hQ _ (st_1 (by omega))
  · refine ⟨fun q => absurd q (by decide), fun q => absurd q (by decide), fun q => absurd q (by decide), fun q => absurd q (by decide), fun q => absurd q (by decide), fun q => absurd q (by decide), fun q => absurd q (by decide), ?_, fun _ _ _ _ _ _ _ q => absurd rfl q⟩
    intro _
    have e16 : sS α S 16 (nI j).toNatClampNeg = nI (α 6 j) := by
      rw [nI_clamp (show j < 2 ^ 31 by omega)]
      exact gr.2.1.1.2 j hj
    have e26 : sS α S 26 (α 6 j + 1) = nI (α 1 (α 6 j + 1)) := w26 gi.1 gr hlab
    unfold wX1_labelOf
    rw [e16, nI_1, nI_clamp (show α 6 j + 1 < 2 ^ 31 by omega), nI_clamp (show k < 2 ^ 31 by omega), e26, n28]
    refine ⟨(vp_nI (by omega)).mpr (by rw [hN.1]; exact hj), (vp_nI (by omega)).mpr (by omega), (vp_nI (by omega)).mpr hk, ?_⟩
    rintro S33 rfl
    refine go_next (i := 9) (p := p) (by omega) (by omega) (by exact h24) ?_
    rintro S19 rfl
    exact hQ
theorem D_10 (hN : LN n s b) (gi : Gi s b 0 α z 0 0 (fun _ => True)) (gr : RS s 0 α z S) (hp : p < α 0 29) (h27 : α 0 27 = p) (h29 : α 0 29 ≤ 64) (ha : IX 16 a) (hb : IX (α 0 29 + 1) b') : DOs n s b α S p 10 a b' c := by
  have hs1 := gi.1.1.2.1
  have hn26 : n 26 = 1 + 14 * s := hN.2.2.2.2.2.2.2.2.2.2.1
  have n28 : n 28 = 8 := hN.2.2.2.2.2.2.2.2.2.2.2.2
  have rm := gr.2.2.2.2.2
  have h24 : S 2 4 = nI p := by rw [← h27]; exact rm.2.1
  have h25 : S 2 5 = nI (α 0 26) := rm.2.2.1
  have gi1 := sA_Gi gi
  have gr1 := sA_RS gr
  obtain ⟨k, hk, rfl⟩ := ha
  obtain ⟨q, hq, rfl⟩ := hb
  have hol := VV_lt gi.1 (gi.2.2.2.2.2.1.1 k hk)
  refine ⟨sA α, z, sS α S, if α 6 k = 0 then q else p + 1, gi1, gr1, rfl, rfl, by split <;> omega, fun Q hQ => ?_, fun Q hQ => C_b115 (α := α) (by omega) (by omega) h25 ?_⟩
  · unfold wX5_does
    rintro x1 rfl
    rw [nI_1]
    refine ⟨fun q => absurd q (by decide), fun q => absurd q (by decide), fun q => absurd q (by decide), fun q => absurd q (by decide), fun q => absurd q (by decide), fun q => absurd q (by decide), fun q => absurd q (by decide), fun q => absurd q (by decide), fun q => absurd q (by decide), ?_, fun q => absurd q (by decide), fun q => absurd q (by decide), fun q => absurd q (by decide), fun q => absurd q (by decide), fun _ _ _ _ _ _ _ _ _ q _ _ _ _ => absurd rfl q⟩
    intro _
    rw [nI_clamp (show k < 2 ^ 31 by omega), nR_at]
    have h := hQ _ st_0
    refine ⟨(vp_nI (by omega)).mpr hk, pk_eq (α 6 k) 0 (fun e => ?_) (fun e => ?_) rfl rfl (by omega) (by omega)⟩
    · rw [if_pos e] at h
      exact h
    · rw [if_neg e] at h
      exact h
  · refine ⟨fun q => absurd q (by decide), fun q => absurd q (by decide), fun q => absurd q (by decide), fun q => absurd q (by decide), fun q => absurd q (by decide), fun q => absurd q (by decide), fun q => absurd q (by decide), fun q => absurd q (by decide), fun _ _ _ _ _ _ _ _ => ?_⟩
    refine ⟨?_, fun q => absurd q (by decide), fun q => absurd q (by decide), fun q => absurd q (by decide), fun q _ _ _ => absurd rfl q⟩
    intro _
    have e16 : sS α S 16 (nI k).toNatClampNeg = nI (α 6 k) := by
      rw [nI_clamp (show k < 2 ^ 31 by omega)]
      exact gr.2.1.1.2 k hk
    have e24 : sS α S 2 4 = nI p := h24
    rw [e16, e24, nI_1]
    refine ⟨(vp_nI (by omega)).mpr (by rw [hN.1]; exact hk), pk_eq (α 6 k) 0 (fun e => ?_) (fun e => ?_) rfl rfl (by omega) (by omega)⟩
    · rintro S19 rfl
      rw [if_pos e] at hQ
      exact hQ
    · rintro S19 rfl
      rw [if_neg e] at hQ
      exact hQ
theorem D_11 (hN : LN n s b) (gi : Gi s b 0 α z 0 0 (fun _ => True)) (gr : RS s 0 α z S) (hp : p < α 0 29) (h27 : α 0 27 = p) (h29 : α 0 29 ≤ 64) (ha : IX 8 a) (hb : IX 8 b') (hc : IX (α 0 29 + 1) c) : DOs n s b α S p 11 a b' c := by
  have hs1 := gi.1.1.2.1
  have hn26 : n 26 = 1 + 14 * s := hN.2.2.2.2.2.2.2.2.2.2.1
  have n28 : n 28 = 8 := hN.2.2.2.2.2.2.2.2.2.2.2.2
  have rm := gr.2.2.2.2.2
  have h24 : S 2 4 = nI p := by rw [← h27]; exact rm.2.1
  have h25 : S 2 5 = nI (α 0 26) := rm.2.2.1
  have gi1 := sA_Gi gi
  have gr1 := sA_RS gr
  obtain ⟨j1, hj1, rfl⟩ := ha
  obtain ⟨j2, hj2, rfl⟩ := hb
  obtain ⟨q, hq, rfl⟩ := hc
  have e1 : sS α S 28 j1 = nI (α 17 j1) := rm.2.2.2.2 j1 hj1
  have e2 : sS α S 28 j2 = nI (α 17 j2) := rm.2.2.2.2 j2 hj2
  have e24 : sS α S 2 4 = nI p := h24
  by_cases e : nI (α 17 j2) ≤ nI (α 17 j1)
  · refine ⟨sA α, z, sS α S, p + 1, gi1, gr1, rfl, rfl, by omega, fun Q hQ => ?_, fun Q hQ => C_b115 (α := α) (by omega) (by omega) h25 ?_⟩
    · unfold wX5_does
      rintro x1 rfl
      rw [nI_1]
      refine ⟨fun q => absurd q (by decide), fun q => absurd q (by decide), fun q => absurd q (by decide), fun q => absurd q (by decide), fun q => absurd q (by decide), fun q => absurd q (by decide), fun q => absurd q (by decide), fun q => absurd q (by decide), fun q => absurd q (by decide), fun q => absurd q (by decide), ?_, fun q => absurd q (by decide), fun q => absurd q (by decide), fun q => absurd q (by decide), fun _ _ _ _ _ _ _ _ _ _ q _ _ _ => absurd rfl q⟩
      intro _
      rw [nI_clamp (show j1 < 2 ^ 31 by omega), nI_clamp (show j2 < 2 ^ 31 by omega), nR_at, nR_at]
      exact ⟨(vp_nI (by omega)).mpr hj1, (vp_nI (by omega)).mpr hj2, fun _ => hQ _ st_0, fun h => absurd e h⟩
    · refine ⟨fun q => absurd q (by decide), fun q => absurd q (by decide), fun q => absurd q (by decide), fun q => absurd q (by decide), fun q => absurd q (by decide), fun q => absurd q (by decide), fun q => absurd q (by decide), fun q => absurd q (by decide), fun _ _ _ _ _ _ _ _ => ?_⟩
      refine ⟨fun q => absurd q (by decide), ?_, fun q => absurd q (by decide), fun q => absurd q (by decide), fun _ q _ _ => absurd rfl q⟩
      intro _
      rw [nI_clamp (show j1 < 2 ^ 31 by omega), nI_clamp (show j2 < 2 ^ 31 by omega), e1, e2, e24, nI_1, n28]
      refine ⟨(vp_nI (by omega)).mpr hj1, (vp_nI (by omega)).mpr hj2, fun _ => ?_, fun h => absurd e h⟩
      rintro S19 rfl
      exact hQ
  · refine ⟨sA α, z, sS α S, q, gi1, gr1, rfl, rfl, by omega, fun Q hQ => ?_, fun Q hQ => C_b115 (α := α) (by omega) (by omega) h25 ?_⟩
    · unfold wX5_does
      rintro x1 rfl
      rw [nI_1]
      refine ⟨fun q => absurd q (by decide), fun q => absurd q (by decide), fun q => absurd q (by decide), fun q => absurd q (by decide), fun q => absurd q (by decide), fun q => absurd q (by decide), fun q => absurd q (by decide), fun q => absurd q (by decide), fun q => absurd q (by decide), fun q => absurd q (by decide), ?_, fun q => absurd q (by decide), fun q => absurd q (by decide), fun q => absurd q (by decide), fun _ _ _ _ _ _ _ _ _ _ q _ _ _ => absurd rfl q⟩
      intro _
      rw [nI_clamp (show j1 < 2 ^ 31 by omega), nI_clamp (show j2 < 2 ^ 31 by omega), nR_at, nR_at]
      exact ⟨(vp_nI (by omega)).mpr hj1, (vp_nI (by omega)).mpr hj2, fun h => absurd h e, fun _ => hQ _ st_0⟩
    · refine ⟨fun q => absurd q (by decide), fun q => absurd q (by decide), fun q => absurd q (by decide), fun q => absurd q (by decide), fun q => absurd q (by decide), fun q => absurd q (by decide), fun q => absurd q (by decide), fun q => absurd q (by decide), fun _ _ _ _ _ _ _ _ => ?_⟩
      refine ⟨fun q => absurd q (by decide), ?_, fun q => absurd q (by decide), fun q => absurd q (by decide), fun _ q _ _ => absurd rfl q⟩
      intro _
      rw [nI_clamp (show j1 < 2 ^ 31 by omega), nI_clamp (show j2 < 2 ^ 31 by omega), e1, e2, e24, nI_1, n28]
      refine ⟨(vp_nI (by omega)).mpr hj1, (vp_nI (by omega)).mpr hj2, fun h => absurd h e, fun _ => ?_⟩
      rintro S19 rfl
      exact hQ
theorem D_12 (hN : LN n s b) (gi : Gi s b 0 α z 0 0 (fun _ => True)) (gr : RS s 0 α z S) (hp : p < α 0 29) (h27 : α 0 27 = p) (h29 : α 0 29 ≤ 64) (ha : IX (α 0 29 + 1) a) : DOs n s b α S p 12 a b' c := by
  have hs1 := gi.1.1.2.1
  have hn26 : n 26 = 1 + 14 * s := hN.2.2.2.2.2.2.2.2.2.2.1
  have n28 : n 28 = 8 := hN.2.2.2.2.2.2.2.2.2.2.2.2
  have rm := gr.2.2.2.2.2
  have h24 : S 2 4 = nI p := by rw [← h27]; exact rm.2.1
  have h25 : S 2 5 = nI (α 0 26) := rm.2.2.1
  have gi1 := sA_Gi gi
  have gr1 := sA_RS gr
  obtain ⟨q, hq, rfl⟩ := ha
  refine ⟨sA α, z, sS α S, q, gi1, gr1, rfl, rfl, by omega, fun Q hQ => ?_, fun Q hQ => C_b115 (α := α) (by omega) (by omega) h25 ?_⟩
  · unfold wX5_does
    rintro x1 rfl
    refine ⟨fun q => absurd q (by decide), fun q => absurd q (by decide), fun q => absurd q (by decide), fun q => absurd q (by decide), fun q => absurd q (by decide), fun q => absurd q (by decide), fun q => absurd q (by decide), fun q => absurd q (by decide), fun q => absurd q (by decide), fun q => absurd q (by decide), fun q => absurd q (by decide), ?_, fun q => absurd q (by decide), fun q => absurd q (by decide), fun _ _ _ _ _ _ _ _ _ _ _ q _ _ => absurd rfl q⟩
    exact fun _ => hQ _ st_0
  · refine ⟨fun q => absurd q (by decide), fun q => absurd q (by decide), fun q => absurd q (by decide), fun q => absurd q (by decide), fun q => absurd q (by decide), fun q => absurd q (by decide), fun q => absurd q (by decide), fun q => absurd q (by decide), fun _ _ _ _ _ _ _ _ => ?_⟩
    refine ⟨fun q => absurd q (by decide), fun q => absurd q (by decide), ?_, fun q => absurd q (by decide), fun _ _ q _ => absurd rfl q⟩
    intro _
    rintro S19 rfl
    exact hQ
theorem D_13 (hN : LN n s b) (gi : Gi s b 0 α z 0 0 (fun _ => True)) (gr : RS s 0 α z S) (hp : p < α 0 29) (h27 : α 0 27 = p) (h29 : α 0 29 ≤ 64) (ha : IX 16 a) (hb : IX 16 b') (hc : IX (α 0 29 + 1) c) : DOs n s b α S p 13 a b' c := by
  have hs1 := gi.1.1.2.1
  have hn26 : n 26 = 1 + 14 * s := hN.2.2.2.2.2.2.2.2.2.2.1
  have n28 : n 28 = 8 := hN.2.2.2.2.2.2.2.2.2.2.2.2
  have rm := gr.2.2.2.2.2
  have h24 : S 2 4 = nI p := by rw [← h27]; exact rm.2.1
  have h25 : S 2 5 = nI (α 0 26) := rm.2.2.1
  have gi1 := sA_Gi gi
  have gr1 := sA_RS gr
  obtain ⟨j1, hj1, rfl⟩ := ha
  obtain ⟨j2, hj2, rfl⟩ := hb
  obtain ⟨q, hq, rfl⟩ := hc
  have e1 : sS α S 16 j1 = nI (α 6 j1) := gr.2.1.1.2 j1 hj1
  have e2 : sS α S 16 j2 = nI (α 6 j2) := gr.2.1.1.2 j2 hj2
  have e24 : sS α S 2 4 = nI p := h24
  have v1 : vp_in (nI j1) (n 16) := (vp_nI (by omega)).mpr (by rw [hN.1]; exact hj1)
  have v2 : vp_in (nI j2) (n 16) := (vp_nI (by omega)).mpr (by rw [hN.1]; exact hj2)
  by_cases e : nI (α 6 j1) = nI (α 6 j2)
  · refine ⟨sA α, z, sS α S, q, gi1, gr1, rfl, rfl, by omega, fun Q hQ => ?_, fun Q hQ => C_b115 (α := α) (by omega) (by omega) h25 ?_⟩
    · unfold wX5_does
      rintro x1 rfl
      rw [nI_1]
      refine ⟨fun q => absurd q (by decide), fun q => absurd q (by decide), fun q => absurd q (by decide), fun q => absurd q (by decide), fun q => absurd q (by decide), fun q => absurd q (by decide), fun q => absurd q (by decide), fun q => absurd q (by decide), fun q => absurd q (by decide), fun q => absurd q (by decide), fun q => absurd q (by decide), fun q => absurd q (by decide), ?_, fun q => absurd q (by decide), fun _ _ _ _ _ _ _ _ _ _ _ _ q _ => absurd rfl q⟩
      intro _
      rw [nI_clamp (show j1 < 2 ^ 31 by omega), nI_clamp (show j2 < 2 ^ 31 by omega), nR_at, nR_at]
      exact ⟨(vp_nI (by omega)).mpr hj1, (vp_nI (by omega)).mpr hj2, fun _ => hQ _ st_0, fun h => absurd e h⟩
    · refine ⟨fun q => absurd q (by decide), fun q => absurd q (by decide), fun q => absurd q (by decide), fun q => absurd q (by decide), fun q => absurd q (by decide), fun q => absurd q (by decide), fun q => absurd q (by decide), fun q => absurd q (by decide), fun _ _ _ _ _ _ _ _ => ?_⟩
      refine ⟨fun q => absurd q (by decide), fun q => absurd q (by decide), fun q => absurd q (by decide), ?_, fun _ _ _ q => absurd rfl q⟩
      intro _
      rw [nI_clamp (show j1 < 2 ^ 31 by omega), nI_clamp (show j2 < 2 ^ 31 by omega), e1, e2, e24, nI_1]
      refine ⟨v1, v2, fun _ => ?_, fun h => absurd e h⟩
      rintro S19 rfl
      exact hQ
  · refine ⟨sA α, z, sS α S, p + 1, gi1, gr1, rfl, rfl, by omega, fun Q hQ => ?_, fun Q hQ => C_b115 (α := α) (by omega) (by omega) h25 ?_⟩
    · unfold wX5_does
      rintro x1 rfl
      rw [nI_1]
      refine ⟨fun q => absurd q (by decide), fun q => absurd q (by decide), fun q => absurd q (by decide), fun q => absurd q (by decide), fun q => absurd q (by decide), fun q => absurd q (by decide), fun q => absurd q (by decide), fun q => absurd q (by decide), fun q => absurd q (by decide), fun q => absurd q (by decide), fun q => absurd q (by decide), fun q => absurd q (by decide), ?_, fun q => absurd q (by decide), fun _ _ _ _ _ _ _ _ _ _ _ _ q _ => absurd rfl q⟩
      intro _
      rw [nI_clamp (show j1 < 2 ^ 31 by omega), nI_clamp (show j2 < 2 ^ 31 by omega), nR_at, nR_at]
      exact ⟨(vp_nI (by omega)).mpr hj1, (vp_nI (by omega)).mpr hj2, fun h => absurd h e, fun _ => hQ _ st_0⟩
    · refine ⟨fun q => absurd q (by decide), fun q => absurd q (by decide), fun q => absurd q (by decide), fun q => absurd q (by decide), fun q => absurd q (by decide), fun q => absurd q (by decide), fun q => absurd q (by decide), fun q => absurd q (by decide), fun _ _ _ _ _ _ _ _ => ?_⟩
      refine ⟨fun q => absurd q (by decide), fun q => absurd q (by decide), fun q => absurd q (by decide), ?_, fun _ _ _ q => absurd rfl q⟩
      intro _
      rw [nI_clamp (show j1 < 2 ^ 31 by omega), nI_clamp (show j2 < 2 ^ 31 by omega), e1, e2, e24, nI_1]
      refine ⟨v1, v2, fun h => absurd h e, fun _ => ?_⟩
      rintro S19 rfl
      exact hQ
theorem J_do {i : Nat} (hN : LN n s b) (gi : Gi s b 0 α z 0 0 (fun _ => True)) (gr : RS s 0 α z S) (hp : p < α 0 29) (h27 : α 0 27 = p) (h29 : α 0 29 ≤ 64) (h2 : 2 ≤ i) (h13 : i < 14) (hR : RTn (α 0 29) a b' c i) (hF : HF α a b' c i) : DOs n s b α S p i a b' c := by
  match i, h2, h13, hR, hF with
  | 2, _, _, hR, hF => exact D_2 hN gi gr hp h27 h29 hR.2.2 hF
  | 3, _, _, hR, hF => exact D_3 hN gi gr hp h27 h29 hR.1 hF
  | 4, _, _, hR, hF => exact D_4 hN gi gr hp h27 h29 hR.1 hR.2
  | 5, _, _, hR, hF => exact D_5 hN gi gr hp h27 h29 hR hF
  | 6, _, _, hR, hF => exact D_6 hN gi gr hp h27 h29 hR hF
  | 7, _, _, hR, hF => exact D_7 hN gi gr hp h27 h29 hR
  | 8, _, _, hR, hF => exact D_8 hN gi gr hp h27 h29 hR.1 hR.2.1 hR.2.2
  | 9, _, _, hR, hF => exact D_9 hN gi gr hp h27 h29 hR.1 hF
  | 10, _, _, hR, hF => exact D_10 hN gi gr hp h27 h29 hR.1 hR.2
  | 11, _, _, hR, hF => exact D_11 hN gi gr hp h27 h29 hR.1 hR.2.1 hR.2.2
  | 12, _, _, hR, hF => exact D_12 hN gi gr hp h27 h29 hR
  | 13, _, _, hR, hF => exact D_13 hN gi gr hp h27 h29 hR.1 hR.2.1 hR.2.2
end PO12
