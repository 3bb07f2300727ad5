/-! THE PURE PART: wish, about -/
def shA (α : Nat → Nat → Nat) (k : Nat) : Nat → Nat → Nat := fun r i => if r = 10 ∧ i < k then α 10 (i + 1) else α r i
theorem sh_at {α : Nat → Nat → Nat} {k r i : Nat} : shA α k r i = if r = 10 ∧ i < k then α 10 (i + 1) else α r i := rfl
theorem sh_S {α : Nat → Nat → Nat} {k : Nat} : upN (shA α k) 10 k (shA α k 10 (k + 1)) = shA α (k + 1) := by
  funext r i
  rw [upN_get, sh_at, sh_at, sh_at, if_neg (show ¬ (10 = 10 ∧ k + 1 < k) by omega)]
  by_cases h : r = 10
  · subst h
    by_cases h2 : i = k
    · rw [if_pos ⟨rfl, h2⟩, if_pos ⟨rfl, by omega⟩, h2]
    · rw [if_neg (fun q => h2 q.2)]
      by_cases h3 : i < k
      · rw [if_pos ⟨rfl, h3⟩, if_pos ⟨rfl, by omega⟩]
      · rw [if_neg (fun q => h3 q.2), if_neg (by omega)]
  · rw [if_neg (fun q => h q.1), if_neg (fun q => h q.1), if_neg (fun q => h q.1)]
theorem sh_0 {α : Nat → Nat → Nat} : shA α 0 = α := by
  funext r i
  exact if_neg (by omega)
theorem sh_eq {α : Nat → Nat → Nat} {N j v : Nat} : shA (upN (upN α 6 j v) 0 14 N) N = upN (upN (shA α N) 0 14 N) 6 j v := by
  funext r i
  unfold shA upN
  by_cases e : r = 10
  · subst e
    simp
  · by_cases e0 : r = 0
    · subst e0
      simp
    · simp [e, e0]
section PO6
variable {s b : Nat} {α : Nat → Nat → Nat} {z : Nat → Nat} {S : Nat → Nat → Int32} {n : Nat → Nat}
theorem sh_Gi {N : Nat} (gi : Gi s b 0 α z 0 0 (fun _ => True)) (h : α 0 14 = N + 1) : Gi s b 0 (upN (shA α N) 0 14 N) z 0 0 (fun _ => True) := by
  obtain ⟨hn, hs, hz, hw, hff, ⟨l1, l2, l3, l4, ⟨l5, l6, l7, l8⟩, l9, l10⟩, ⟨d1, d2, d3⟩, hq, hrr, hk⟩ := gi
  have at10 : ∀ i, i < N → upN (shA α N) 0 14 N 10 i = α 10 (i + 1) := fun i hi => by
    show (if 10 = 0 ∧ i = 14 then N else if 10 = 10 ∧ i < N then α 10 (i + 1) else α 10 i) = _
    rw [if_neg (by omega), if_pos ⟨rfl, hi⟩]
  refine ⟨hn, hs, hz, hw, hff, ⟨l1, l2, l3, l4, ⟨l5, l6, ?_, l8⟩, l9, fun i hi => ?_⟩, ⟨d1, fun i j hij hj => ?_, fun i j hi hj hx => ?_⟩, hq, hrr, hk⟩
  · show 0 + (α 0 12 - 0) + N ≤ 7 * s / 2
    omega
  · have hi2 : i < N := hi
    rw [at10 i hi2]
    exact l10 (i + 1) (by omega)
  · have hj2 : j < N := hj
    rw [at10 i (by omega), at10 j hj2]
    exact d2 (i + 1) (j + 1) (by omega) (by omega)
  · have hj2 : j < N := hj
    rw [at10 j hj2]
    exact d3 i (j + 1) hi (by omega) hx
theorem sh_RS {N : Nat} (gr : RS s 0 α z S) (h : α 0 14 = N + 1) : RS s 0 (upN (shA α N) 0 14 N) z (upR (up2 S 10 1 (nI N)) 20 (va_cpy (S 20) (S 20) 1 0 N)) := by
  obtain ⟨rg, rl, rr, rw', rc, rm⟩ := gr
  have row : ∀ k, k ≠ 10 → k ≠ 20 → upR (up2 S 10 1 (nI N)) 20 (va_cpy (S 20) (S 20) 1 0 N) k = S k := fun k h1 h2 => by
    rw [upR_ne _ _ h2, up2_row _ h1]
  refine ⟨?_, ?_, ?_, ?_, ?_, ?_⟩
  · intro g hg
    rw [row (3 + g) (by omega) (by omega)]
    exact rg g hg
  · unfold RLs at rl ⊢
    rw [row 6 (by omega) (by omega), row 7 (by omega) (by omega), row 8 (by omega) (by omega), row 9 (by omega) (by omega), row 11 (by omega) (by omega), row 16 (by omega) (by omega), row 17 (by omega) (by omega), row 18 (by omega) (by omega), row 19 (by omega) (by omega), row 21 (by omega) (by omega)]
    refine ⟨rl.1, rl.2.1, rl.2.2.1, rl.2.2.2.1, ⟨?_, fun i hi => ?_⟩, rl.2.2.2.2.2⟩
    · rw [upR_ne _ _ (by omega), up2_hit]
      rfl
    · have hi2 : i < N := hi
      rw [upR_at, pk_cpy_in (by omega) (by omega)]
      have e : upN (shA α N) 0 14 N 10 i = α 10 (i + 1) := by
        show (if 10 = 0 ∧ i = 14 then N else if 10 = 10 ∧ i < N then α 10 (i + 1) else α 10 i) = _
        rw [if_neg (by omega), if_pos ⟨rfl, hi2⟩]
      rw [e, show 1 + (i - 0) = i + 1 by omega]
      exact rl.2.2.2.2.1.2 (i + 1) (by omega)
  · intro k hr
    have := rrow_in (S 1 8) hr
    rw [row 1 (by omega) (by omega), row _ (by omega) (by omega), row _ (by omega) (by omega)]
    exact rr k hr
  · unfold RW at rw' ⊢
    rw [row 26 (by omega) (by omega)]
    exact rw'
  · unfold RC at rc ⊢
    rw [row 1 (by omega) (by omega)]
    exact rc
  · unfold RM at rm ⊢
    rw [row 2 (by omega) (by omega), row 27 (by omega) (by omega), row 28 (by omega) (by omega)]
    exact rm
theorem M_sh {j N : Nat} (hj : j < 16) (hN : N < 459) (h14 : α 0 14 = N) {Q : Int32 → (Nat → Nat → Int32) → Prop} (hq : Q (nI (α 6 j)) (nR (shA α N))) : ∀ m k, k + m = N → wX5_wish_b56 (nI j) (m + 1) (nI k) (nR (shA α k)) Q := by
  intro m
  induction m with
  | zero =>
    intro k hk
    rw [wX5_wish_b56]
    have e : nR (shA α k) 0 14 = nI N := by rw [← h14]; rfl
    rw [e]
    refine ⟨fun _ => ⟨(vp_nI (by omega)).mpr hj, ?_⟩, fun q => absurd (nI_le (by omega) (by omega)) q⟩
    rw [nI_clamp (by omega), show k = N by omega]
    exact hq
  | succ m ih =>
    intro k hk
    rw [wX5_wish_b56]
    have e : nR (shA α k) 0 14 = nI N := by rw [← h14]; rfl
    rw [e]
    refine ⟨fun q => absurd q (by rw [nI_leI (by omega) (by omega)]; omega), fun _ => ?_⟩
    rw [nI_1, nI_clamp (show k < 2 ^ 31 by omega), nI_clamp (show k + 1 < 2 ^ 31 by omega), nR_at, up2_nR, sh_S]
    refine ⟨(vp_nI (by omega)).mpr (by omega), (vp_nI (by omega)).mpr (by omega), ?_⟩
    rintro S14 rfl x16 rfl
    exact ih (k + 1) (by omega)
theorem O_wish (hN : LN n s b) {T : Nat → Nat → Int32} (h : PV s b S T) (a1 : Int32) : op_wish n a1 S T (PV s b) := by
  obtain ⟨α, z, rfl, gi, gr, h29⟩ := h
  unfold op_wish wL_wish wX4_wish
  have hs1 := gi.1.1.2.1
  have e10 : S 10 1 = nI (α 0 14) := gr.2.1.2.2.2.2.1.1
  have hcap : α 0 14 ≤ 7 * s / 2 := by
    have := gi.2.2.2.2.2.1.2.2.2.2.1.2.2.1
    omega
  have n20 : n 20 = 7 * s / 2 := hN.2.2.2.2.1
  by_cases h1 : IX 16 a1
  · refine L_rt h1 ?_
    obtain ⟨j, hj, rfl⟩ := id h1
    have v16' : vp_in (nI j) 16 := (vp_nI (by omega)).mpr hj
    have v16 : vp_in (nI j) (n 16) := (vp_nI (by omega)).mpr (by rw [hN.1]; exact hj)
    refine pk_eq (α 0 14) 0 (fun q => ?_) (fun q => ?_) e10 rfl (by omega) (by omega)
    · unfold wX5_wish wX5_wish_b13
      refine M_rt h1 ⟨fun q => (by simp at q), fun _ => ?_⟩
      rintro S4 rfl
      rw [thr0, ← nI_0, set_thr]
      refine ⟨fun q => absurd q (by decide), fun _ => ⟨fun _ => ?_, fun q2 => absurd (by show nI (α 0 14) = nI 0; rw [q]) q2⟩⟩
      exact ⟨rfl, fun _ => rfl, PV_thr gi gr h29⟩
    · obtain ⟨N, h14⟩ : ∃ N, α 0 14 = N + 1 := ⟨α 0 14 - 1, by omega⟩
      have c1 := sh_Gi (α := upN α 0 0 0) gi h14
      have c2 := sh_RS (α := upN α 0 0 0) (N := N) gr h14
      have hv : VV s 0 (upN (shA (upN α 0 0 0) N) 0 14 N) z (α 10 0) := Or.inr (gi.2.2.2.2.2.1.2.2.2.2.2.2 0 (by omega))
      obtain ⟨d1, d2⟩ := set6 (k := j) (v := α 10 0) c1 c2 hv
      have t1 : (1 : Int32).toNatClampNeg = 1 := by decide
      have t0 : (0 : Int32).toNatClampNeg = 0 := by decide
      have f1 : ∀ Q : Int32 → (Nat → Nat → Int32) → Prop, Q (nI (α 10 0)) (nR (upN (upN (shA (upN α 0 0 0) N) 0 14 N) 6 j (α 10 0))) → wX5_wish (nI j) (nR α) Q := by
        intro Q hQ
        unfold wX5_wish wX5_wish_b13
        refine M_rt h1 ⟨fun q => (by simp at q), fun _ => ?_⟩
        rintro S4 rfl
        rw [thr0, ← nI_0, set_thr]
        refine ⟨fun q => absurd q (by decide), fun _ => ⟨fun q2 => absurd ((nI_eq (by show α 0 14 < 2 ^ 31; omega) (by omega)).mp q2) q, fun _ => ⟨v16', ?_⟩⟩⟩
        rintro S8 rfl S10 rfl
        have e : up2 (up2 (nR (upN α 0 0 0)) 6 (nI j).toNatClampNeg (nR (upN α 0 0 0) 10 0)) 0 14 (up2 (nR (upN α 0 0 0)) 6 (nI j).toNatClampNeg (nR (upN α 0 0 0) 10 0) 0 14 - 1) = nR (upN (upN (upN α 0 0 0) 6 j (α 10 0)) 0 14 N) := by
          rw [nI_clamp (show j < 2 ^ 31 by omega), show nR (upN α 0 0 0) 10 0 = nI (α 10 0) from rfl, up2_nR, show nR (upN (upN α 0 0 0) 6 j (α 10 0)) 0 14 = nI (α 0 14) from rfl, h14, nI_pred, up2_nR]
        rw [e]
        refine ⟨N + 1, ?_⟩
        have := M_sh (α := upN (upN (upN α 0 0 0) 6 j (α 10 0)) 0 14 N) (N := N) hj (by omega) rfl (Q := Q) ?_ N 0 (by omega)
        · rw [sh_0] at this
          exact this
        · rw [sh_eq, show upN (upN (upN α 0 0 0) 6 j (α 10 0)) 0 14 N 6 j = α 10 0 from upN_hit _ _ _ _]
          exact hQ
      unfold wX3_takeFirst
      refine pk_eq (α 0 14) 0 (fun q2 => absurd q2 q) (fun _ => ⟨(vp_nI (i := 0) (by omega)).mpr (by show 0 < n 20; omega), ?_⟩) e10 rfl (by omega) (by omega)
      intro x2 e2 S4 e4
      have e2' : x2 = nI (α 10 0) := e2.trans (gr.2.1.2.2.2.2.1.2 0 (by omega))
      have e4' : S4 = up2 S 10 1 (nI N) := by rw [e4, e10, h14, nI_pred]
      clear e2 e4
      subst e2' e4'
      rw [up2_hit, t1, t0, nI_clamp (show N < 2 ^ 31 by omega), up2_row _ (show 10 + 10 ≠ 10 by omega)]
      refine ⟨⟨by decide, by decide, nI_pos (by omega), by show 1 + N ≤ n 20; omega, by show 0 + N ≤ n 20; omega⟩, ?_⟩
      rintro S6 rfl
      refine ⟨v16, ?_⟩
      rintro S7 rfl
      rw [nI_clamp (show j < 2 ^ 31 by omega), up2_hit]
      refine ⟨v16, f1 _ ⟨rfl, fun _ => rfl, _, z, rfl, d1, d2, h29⟩⟩
  · refine L_rf h1 ⟨rfl, ?_⟩
    unfold wX5_wish wX5_wish_b13
    refine M_rf h1 ⟨fun _ => ?_, fun q => (by simp at q)⟩
    rintro S4 rfl
    rw [thr0]
    exact ⟨fun _ => ⟨rfl, fun q => absurd q (by decide), PV_thrI (t := 1) gi gr h29⟩, fun q => absurd (by decide) q⟩
theorem M_keen {o : Nat} (ho : o < 1793) (hw : α 1 o < 128) {Q : Bool → (Nat → Nat → Int32) → Prop} (h0 : α 1 o / 64 = 0 → Q false (nR α)) (h1 : α 1 o / 64 ≠ 0 → Q true (nR α)) : wX5_isKeen (nI o) (nR α) Q := by
  unfold wX5_isKeen
  rw [nI_clamp (by omega), nR_at, and64 _ hw]
  exact ⟨(vp_nI (by omega)).mpr ho, pk_le (α 1 o / 64 * 64) 0 (fun q => h0 (by omega)) (fun q => h1 (by omega)) rfl rfl (by omega) (by omega)⟩
theorem C_keen {o w : Nat} (ho : o < n 26) (ho2 : o < 2 ^ 31) (hS : S 26 o = nI w) (hw : w < 128) {Q : Bool → (Nat → Nat → Int32) → Prop} (h0 : w / 64 = 0 → Q false S) (h1 : w / 64 ≠ 0 → Q true S) : wX1_isKeen n (nI o) S Q := by
  unfold wX1_isKeen
  rw [nI_clamp ho2, hS, and64 _ hw]
  exact ⟨(vp_nI ho2).mpr ho, pk_eq (w / 64 * 64) 0 (fun q => h0 (by omega)) (fun q => h1 (by omega)) rfl rfl (by omega) (by omega)⟩
theorem C_age {o w : Nat} (ho : o < n 26) (ho2 : o < 2 ^ 31) (hS : S 26 o = nI w) (hw : w < 128) {Q : Int32 → (Nat → Nat → Int32) → Prop} (h : Q (nI (w / 8 % 8)) S) : wX1_ageOf n (nI o) S Q := by
  unfold wX1_ageOf
  rw [nI_clamp ho2, hS, nI_shr3 (by omega), nI_and7 (by omega)]
  exact ⟨(vp_nI ho2).mpr ho, h⟩
theorem O_about (hN : LN n s b) {T : Nat → Nat → Int32} (h : PV s b S T) (a1 a2 : Int32) : op_about n a1 a2 S T (PV s b) := by
  obtain ⟨α, z, rfl, gi, gr, h29⟩ := h
  unfold op_about wL_about wX4_about
  have hs1 := gi.1.1.2.1
  have hn26 : n 26 = 1 + 14 * s := hN.2.2.2.2.2.2.2.2.2.2.1
  have kx : ∀ t : Nat, t ≠ 0 → t < 3 → wX5_about_b50 a1 a2 (nI t) (nR α) (fun b1 T1 => wX5_thrown T1 (fun th T2 => th = nI t ∧ (nI t = 0 → none = some b1) ∧ PV s b S T2)) := fun t ht ht3 => by
    unfold wX5_about_b50
    rintro S4 rfl
    rw [thr0]
    exact ⟨fun q => absurd q (nI_nle (by omega) (by omega)), fun _ => ⟨rfl, fun q => absurd q (nI_ne0 (by omega) (by omega)), PV_thrI (t := t) gi gr h29⟩⟩
  by_cases h1 : IX 16 a1
  · refine L_rt h1 ?_
    obtain ⟨j, hj, rfl⟩ := id h1
    have hol := VV_lt gi.1 (gi.2.2.2.2.2.1.1 j hj)
    have v16' : vp_in (nI j) 16 := (vp_nI (by omega)).mpr hj
    unfold wX4_objectOf
    rw [nI_clamp (show j < 2 ^ 31 by omega), gr.2.1.1.2 j hj]
    refine ⟨(vp_nI (by omega)).mpr (by rw [hN.1]; exact hj), ?_⟩
    refine pk_eq (α 6 j) 0 (fun q => Or.inr ⟨rfl, ?_⟩) (fun q => ?_) rfl rfl (by omega) (by omega)
    · unfold wX5_about
      refine M_rt h1 ⟨fun q => (by simp at q), fun _ => ⟨v16', ?_⟩⟩
      rw [nI_clamp (show j < 2 ^ 31 by omega), nR_at]
      exact ⟨fun _ => kx 2 (by omega) (by omega), fun q2 => absurd (by rw [q]; rfl) q2⟩
    · have ho := root_o gi hj q
      have hoU := U_lt gi.1 ho.1
      have hhd := (gi.2.2.2.1 _ (Or.inl ho)).1
      have hz2 := OU_pz gi.2.2.1 ho
      have hlab := (OU_in gi.1 gi.2.2.1 ho (show 1 < z (α 6 j) by omega)).2
      have hlabl := U_lt gi.1 hlab
      have e26 := w26 gi.1 gr ho.1
      have eI : IX (5 + α 1 (α 6 j) % 8) a2 ∨ ¬ IX (5 + α 1 (α 6 j) % 8) a2 := Classical.em _
      have md : ∀ Q : Int32 → (Nat → Nat → Int32) → Prop, (IX (5 + α 1 (α 6 j) % 8) a2 → wX5_about_b50 (nI j) a2 0 (nR α) Q) → (¬ IX (5 + α 1 (α 6 j) % 8) a2 → wX5_about_b50 (nI j) a2 1 (nR α) Q) → wX5_about (nI j) a2 (nR α) Q := by
        intro Q q1 q2
        unfold wX5_about
        refine M_rt h1 ⟨fun q => (by simp at q), fun _ => ⟨v16', ?_⟩⟩
        rw [nI_clamp (show j < 2 ^ 31 by omega), nR_at]
        refine ⟨fun q3 => absurd ((nI_eq (by omega) (by omega)).mp (q3.trans nI_0.symm)) q, fun _ => ⟨v16', ?_⟩⟩
        refine M_fields (by omega) (by have := hhd.2; omega) ?_
        rw [show (4 : Int32) = nI 4 from rfl, nI_add]
        rcases eI with q3 | q3
        · refine M_in_t (k := 4 + α 1 (α 6 j) % 8) (by omega) ?_ ⟨fun q => (by simp at q), fun _ => q1 q3⟩
          rw [show 4 + α 1 (α 6 j) % 8 + 1 = 5 + α 1 (α 6 j) % 8 by omega]
          exact q3
        · refine M_in_f (k := 4 + α 1 (α 6 j) % 8) (by omega) ?_ ⟨fun _ => q2 q3, fun q => (by simp at q)⟩
          rw [show 4 + α 1 (α 6 j) % 8 + 1 = 5 + α 1 (α 6 j) % 8 by omega]
          exact q3
      have bad : ¬ IX (5 + α 1 (α 6 j) % 8) a2 → wX5_about (nI j) a2 (nR α) (fun b1 T1 => wX5_thrown T1 (fun th T2 => th = 1 ∧ ((1 : Int32) = 0 → none = some b1) ∧ PV s b S T2)) := fun q2 => md _ (fun q3 => absurd q3 q2) (fun _ => kx 1 (by omega) (by omega))
      have go : ∀ r : Int32, (a2 = 0 → r = nI (α 1 (α 6 j) % 8)) → (a2 = 1 → r = nI (α 1 (α 6 j) / 8 % 8)) → (a2 = 2 → (α 1 (α 6 j) / 64 = 0 → r = 0) ∧ (α 1 (α 6 j) / 64 ≠ 0 → r = 1)) → (a2 = 3 → r = nI (α 1 (α 6 j + 1))) → (a2 = 4 → r = nI (aG s (α 6 j))) → (∀ m, m < α 1 (α 6 j) % 8 → a2 = nI (5 + m) → r = nI (α 1 (α 6 j + 2 + m))) → IX (5 + α 1 (α 6 j) % 8) a2 → wX5_about (nI j) a2 (nR α) (fun b1 T1 => wX5_thrown T1 (fun th T2 => th = 0 ∧ ((0 : Int32) = 0 → some r = some b1) ∧ PV s b S T2)) := by
        intro r g0 g1 g2 g3 g4 g5 hI
        refine md _ (fun _ => ?_) (fun q2 => absurd hI q2)
        unfold wX5_about_b50
        rintro S10 rfl
        rw [thr0]
        refine ⟨fun _ => ⟨v16', ?_⟩, fun q2 => absurd (by decide) q2⟩
        have eS : up2 (nR α) 0 0 0 = nR (upN α 0 0 0) := by
          rw [← nI_0, up2_nR]
        rw [eS, nI_clamp (show j < 2 ^ 31 by omega), show nR (upN α 0 0 0) 6 j = nI (α 6 j) from rfl]
        have fin : ∀ x : Int32, r = x → wX5_thrown (nR (upN α 0 0 0)) (fun th T2 => th = 0 ∧ ((0 : Int32) = 0 → some r = some x) ∧ PV s b S T2) := fun x hx => ⟨rfl, fun _ => by rw [hx], PV_thr gi gr h29⟩
        have wlt : α 1 (α 6 j) < 128 := hhd.2
        refine ⟨fun e => ?_, fun e => ?_, fun e => ?_, fun e => ?_, fun e => ?_, fun e0 e1 e2 e3 e4 => ?_⟩
        · exact M_fields (a := upN α 0 0 0) (by omega) (by show α 1 (α 6 j) < 2 ^ 31; omega) (fin _ (g0 e))
        · exact M_age (a := upN α 0 0 0) (by omega) (by show α 1 (α 6 j) < 2 ^ 31; omega) (fin _ (g1 e))
        · exact M_keen (α := upN α 0 0 0) (by omega) wlt (fun q2 => ⟨fun _ => fin _ ((g2 e).1 q2), fun q3 => (by simp at q3)⟩) (fun q2 => ⟨fun q3 => (by simp at q3), fun _ => fin _ ((g2 e).2 q2)⟩)
        · rw [nI_1, nI_clamp (by omega)]
          exact ⟨(vp_nI (by omega)).mpr (by omega), fin _ (g3 e)⟩
        · exact M_gen' (α := upN α 0 0 0) (b := b) (c := 0) gi.1 (by omega) (fin _ (g4 e))
        · obtain ⟨i, hi, rfl⟩ := hI
          have hi5 : 5 ≤ i := by
            rcases Nat.lt_or_ge i 5 with q2 | q2
            · match i, q2 with
              | 0, _ => exact absurd rfl e0
              | 1, _ => exact absurd rfl e1
              | 2, _ => exact absurd rfl e2
              | 3, _ => exact absurd rfl e3
              | 4, _ => exact absurd rfl e4
            · exact q2
          have hfl := U_lt gi.1 (FU_in gi.1 gi.2.2.1 (fld gi ho (show i - 5 < α 1 (α 6 j) % 8 by omega))).1
          rw [show (2 : Int32) = nI 2 from rfl, show (5 : Int32) = nI 5 from rfl, nI_add, nI_add, pk_sub (by omega), nI_clamp (by omega)]
          refine ⟨(vp_nI (by omega)).mpr (by omega), fin _ ?_⟩
          rw [show α 6 j + 2 + i - 5 = α 6 j + 2 + (i - 5) by omega]
          exact g5 (i - 5) (by omega) (by rw [show 5 + (i - 5) = i by omega])
      have wlt : α 1 (α 6 j) < 128 := hhd.2
      have hIlit : ∀ i, i < 5 → IX (5 + α 1 (α 6 j) % 8) (nI i) := fun i hi => ⟨i, by omega, rfl⟩
      refine ⟨fun e => ?_, fun e => ?_, fun e => ?_, fun e => ?_, fun e => ?_, fun e0 e1 e2 e3 e4 => (Classical.em (0 ≤ a2)).elim (fun q2 => ?_) (fun q2 => ?_)⟩
      · subst e
        refine C_fieldsOf (w := α 1 (α 6 j)) (by omega) (by omega) e26 (by omega) ?_
        exact go _ (fun _ => rfl) (fun q2 => absurd q2 (by decide)) (fun q2 => absurd q2 (by decide)) (fun q2 => absurd q2 (by decide)) (fun q2 => absurd q2 (by decide)) (fun m hm q2 => absurd ((nI_eq (a := 0) (by omega) (by omega)).mp q2) (by omega)) (hIlit 0 (by omega))
      · subst e
        refine C_age (by omega) (by omega) e26 wlt ?_
        exact go _ (fun q2 => absurd q2 (by decide)) (fun _ => rfl) (fun q2 => absurd q2 (by decide)) (fun q2 => absurd q2 (by decide)) (fun q2 => absurd q2 (by decide)) (fun m hm q2 => absurd ((nI_eq (a := 1) (by omega) (by omega)).mp q2) (by omega)) (hIlit 1 (by omega))
      · subst e
        refine C_keen (by omega) (by omega) e26 wlt (fun q3 => ⟨fun _ => ?_, fun q4 => (by simp at q4)⟩) (fun q3 => ⟨fun q4 => (by simp at q4), fun _ => ?_⟩)
        · exact go _ (fun q2 => absurd q2 (by decide)) (fun q2 => absurd q2 (by decide)) (fun _ => ⟨fun _ => rfl, fun q4 => absurd q3 q4⟩) (fun q2 => absurd q2 (by decide)) (fun q2 => absurd q2 (by decide)) (fun m hm q2 => absurd ((nI_eq (a := 2) (by omega) (by omega)).mp q2) (by omega)) (hIlit 2 (by omega))
        · exact go _ (fun q2 => absurd q2 (by decide)) (fun q2 => absurd q2 (by decide)) (fun _ => ⟨fun q4 => absurd q4 q3, fun _ => rfl⟩) (fun q2 => absurd q2 (by decide)) (fun q2 => absurd q2 (by decide)) (fun m hm q2 => absurd ((nI_eq (a := 2) (by omega) (by omega)).mp q2) (by omega)) (hIlit 2 (by omega))
      · subst e
        unfold wX1_labelOf
        rw [nI_1, nI_clamp (show α 6 j + 1 < 2 ^ 31 by omega), w26 gi.1 gr hlab]
        refine ⟨(vp_nI (by omega)).mpr (by omega), ?_⟩
        exact go _ (fun q2 => absurd q2 (by decide)) (fun q2 => absurd q2 (by decide)) (fun q2 => absurd q2 (by decide)) (fun _ => rfl) (fun q2 => absurd q2 (by decide)) (fun m hm q2 => absurd ((nI_eq (a := 3) (by omega) (by omega)).mp q2) (by omega)) (hIlit 3 (by omega))
      · subst e
        refine C_home (s := s) (c := 0) (α := α) hs1 (by omega) gr.1 ?_
        rw [(gr.1 _ (aG_lt s (α 6 j))).1]
        exact go _ (fun q2 => absurd q2 (by decide)) (fun q2 => absurd q2 (by decide)) (fun q2 => absurd q2 (by decide)) (fun q2 => absurd q2 (by decide)) (fun _ => rfl) (fun m hm q2 => absurd ((nI_eq (a := 4) (by omega) (by omega)).mp q2) (by omega)) (hIlit 4 (by omega))
      · have q3 : ¬ a2 < 0 := Int32.not_lt.mpr q2
        obtain ⟨i, hi, rfl⟩ := nI_of q3
        have hi5 : 5 ≤ i := by
          rcases Nat.lt_or_ge i 5 with q2 | q2
          · match i, q2 with
            | 0, _ => exact absurd rfl e0
            | 1, _ => exact absurd rfl e1
            | 2, _ => exact absurd rfl e2
            | 3, _ => exact absurd rfl e3
            | 4, _ => exact absurd rfl e4
          · exact q2
        unfold wX4_lookAtField
        rw [show (5 : Int32) = nI 5 from rfl, pk_sub hi5]
        refine C_hf gi gr hN ho (fun q3 => ⟨fun q4 => (by simp at q4), fun _ => ?_⟩) (fun q3 => ⟨fun _ => Or.inl ⟨rfl, ?_⟩, fun q4 => (by simp at q4)⟩)
        · obtain ⟨m, hm, e⟩ := q3
          have em := (nI_eq (by omega) (by omega)).mp e
          have hfu := FU_in gi.1 gi.2.2.1 (fld gi ho hm)
          have hfl := U_lt gi.1 hfu.1
          unfold wX1_fieldOf
          rw [e, show (2 : Int32) = nI 2 from rfl, nI_add, nI_add, nI_clamp (show α 6 j + 2 + m < 2 ^ 31 by omega), w26 gi.1 gr hfu.1]
          refine ⟨(vp_nI (by omega)).mpr (by omega), ?_⟩
          exact go _ (fun q2 => absurd q2 e0) (fun q2 => absurd q2 e1) (fun q2 => absurd q2 e2) (fun q2 => absurd q2 e3) (fun q2 => absurd q2 e4) (fun m' hm' q2 => by rw [show m' = m by have := (nI_eq (by omega) (by omega)).mp q2; omega]) ⟨i, by omega, rfl⟩
        · refine bad ?_
          rintro ⟨i', hi', e⟩
          have e' := (nI_eq (by omega) (by omega)).mp e
          exact q3 ⟨i - 5, by omega, rfl⟩
      · have nf : ¬ IX (α 1 (α 6 j) % 8) (a2 - 5) := by
          rintro ⟨m, hm, e⟩
          have e' : a2 = nI m + nI 5 := by rw [← e]; exact (Int32.sub_add_cancel a2 5).symm
          rw [nI_add] at e'
          exact q2 (by rw [e']; exact nI_pos' (by omega))
        unfold wX4_lookAtField
        refine C_hf gi gr hN ho (fun q3 => absurd q3 nf) (fun _ => ⟨fun _ => Or.inl ⟨rfl, bad ?_⟩, fun q4 => (by simp at q4)⟩)
        rintro ⟨i', hi', rfl⟩
        exact q2 (nI_pos' (by omega))
  · refine L_rf h1 (Or.inl ⟨rfl, ?_⟩)
    unfold wX5_about
    exact M_rf h1 ⟨fun _ => kx 1 (by omega) (by omega), fun q => (by simp at q)⟩
end PO6
