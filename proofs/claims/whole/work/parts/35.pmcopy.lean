/-! THE PURE PART: the model copies -/
def agN (w : Nat) : Nat := if 7 ≤ w / 8 % 8 then 7 else w / 8 % 8 + 1
theorem agN_le (w : Nat) : agN w ≤ 7 := by
  unfold agN
  split <;> omega
/-- where a copy goes, and its head -/
def CT (s c : Nat) (α : Nat → Nat → Nat) (z : Nat → Nat) (o t hd : Nat) : Prop :=
  (t = aG s o + 1 ∧ aG s o < 2 ∧ α 3 (aG s o) < agN (α 1 o) ∧ α 5 (aG s o + 1) + z o + (if aG s o + 1 < c then α 21 (aG s o + 1) else 0) ≤ sz s (aG s o + 1) ∧ hd = α 1 o % 8 + 8 * 0 + α 1 o / 64 * 64) ∨
  (t = aG s o ∧ (aG s o < 2 → α 3 (aG s o) < agN (α 1 o) → ¬ α 5 (aG s o + 1) + z o + (if aG s o + 1 < c then α 21 (aG s o + 1) else 0) ≤ sz s (aG s o + 1)) ∧ hd = α 1 o % 8 + 8 * agN (α 1 o) + α 1 o / 64 * 64)
theorem CT_is (s c : Nat) (α : Nat → Nat → Nat) (z : Nat → Nat) (o : Nat) : ∃ t hd, CT s c α z o t hd := by
  by_cases h : aG s o < 2 ∧ α 3 (aG s o) < agN (α 1 o) ∧ α 5 (aG s o + 1) + z o + (if aG s o + 1 < c then α 21 (aG s o + 1) else 0) ≤ sz s (aG s o + 1)
  · exact ⟨_, _, Or.inl ⟨rfl, h.1, h.2.1, h.2.2, rfl⟩⟩
  · exact ⟨_, _, Or.inr ⟨rfl, fun h1 h2 h3 => h ⟨h1, h2, h3⟩, rfl⟩⟩
section PMC
variable {s b c : Nat} {α : Nat → Nat → Nat} {z : Nat → Nat} {o t hd : Nat}
theorem CG_of (hn : Gn s b c α) (hs : Gs c α z) (hz : Gz s c α z) (hw : Gw s c α z) (hf : Gf s c α z) (ho : OF s c α z o) (h2 : α 2 o = 0) (ht : CT s c α z o t hd) : CG s b c α z o t hd := by
  have hg := aG_lt s o
  have hwo := (hw o (Or.inr ho)).1
  have hA := agN_le (α 1 o)
  unfold HD at hwo
  refine ⟨hn, hs, hz, hf, ho, h2, ?_, ?_, ?_⟩
  · rcases ht with q | q <;> omega
  · rcases ht with q | q
    · refine Or.inr ⟨q.1, ?_⟩
      rw [q.1]
      have := q.2.2.2.1
      omega
    · exact Or.inl q.1
  · unfold HD
    rcases ht with q | q <;> omega
theorem Gn_left (hn : Gn s b c α) {g x : Nat} (hx : x ≤ α 21 g) : Gn s b c (upN α 21 g x) := by
  refine ⟨hn.1, fun k hk => ?_, hn.2.2⟩
  have q := hn.2.1 k hk
  refine ⟨q.1, ?_, q.2.2⟩
  refine Nat.le_trans ?_ q.2.1
  show α 5 k + (if k < c then (if 21 = 21 ∧ k = g then x else α 21 k) else 0) ≤ _
  by_cases e : k = g
  · subst e
    by_cases e2 : k < c
    · rw [if_pos e2, if_pos e2, if_pos ⟨rfl, rfl⟩]
      omega
    · rw [if_neg e2, if_neg e2]
      omega
  · rw [if_neg (show ¬ (21 = 21 ∧ k = g) from fun q => e q.2)]
    omega
theorem M_cp95 (h : CG s b c α z o t hd) (hw : HD (α 1 o) (z o)) {A A' : Nat} (hA : A ≤ 7) (hA' : A' = if t ≤ aG s o then A else 0) (hh : hd = α 1 o % 8 + 8 * A' + α 1 o / 64 * 64) {Q : Int32 → (Nat → Nat → Int32) → Prop} (hq : Q (nI (st s α t + α 5 t)) (nR (cpA α o (aG s o) t (st s α t + α 5 t) (z o) hd))) : wX5_copy_b95 (nI o) (nI A) (nI (z o)) (nI (aG s o)) (nI t) (nR (upN α 21 (aG s o) (α 21 (aG s o) - z o))) Q := by
  have hl := cp_left h
  have hr := cp_room h
  have hfr := fun a => @cp_fresh s b c α z o t hd h a
  have hop := OF_pz h.2.2.1 h.2.2.2.2.1
  obtain ⟨hn, hs, hz, hf, ho, h2, h3, h4, -⟩ := h
  have hn1 := Gn_left hn (g := aG s o) (x := α 21 (aG s o) - z o) (by omega)
  have hu := U_bd hn h3
  have hfb := F_bd hn ho.1.1
  have hgt : aG s o < t ∨ aG s o = t := by omega
  have hg := aG_lt s o
  have hs1 := hn.1.2.1
  have hs2 := sz_lt (g := t) hs1
  have h5 := (hn.2.1 t h3)
  unfold HD at hw
  unfold wX5_copy_b95
  rw [nI_clamp (show t < 2 ^ 31 by omega)]
  refine ⟨(vp_nI (by omega)).mpr h3, ?_⟩
  refine M_begin' hn1 h3 h5.1 ?_
  refine ⟨(vp_nI (by omega)).mpr h3, ?_⟩
  rintro x22 rfl
  refine ⟨(vp_nI (by omega)).mpr h3, (vp_nI (by omega)).mpr h3, ?_⟩
  rintro S24 rfl
  have e5 : nR (upN α 21 (aG s o) (α 21 (aG s o) - z o)) 5 t = nI (α 5 t) := rfl
  rw [e5, nI_add, nI_add, up2_nR]
  refine ⟨z o + 1, ?_⟩
  have e0 : nR (upN (upN α 21 (aG s o) (α 21 (aG s o) - z o)) 5 t (α 5 t + z o)) = nR (cwA (upN (upN α 21 (aG s o) (α 21 (aG s o) - z o)) 5 t (α 5 t + z o)) o (hb s t (α 4 t) + α 5 t) 0) := by rw [cw_0]
  rw [e0, show (0 : Int32) = nI 0 from rfl]
  have hdis : ∀ i, o ≤ i → i < o + z o → ¬ (st s α t + α 5 t ≤ i ∧ i < st s α t + α 5 t + z o) := fun i q1 q2 q3 => by
    have e := (OF_in hn hz ho (i := i - o) (by omega)).2
    rw [show o + (i - o) = i by omega] at e
    exact (hfr i q3.1 q3.2).2.2 e
  refine M_cpl (by omega) (show st s α t + α 5 t + z o ≤ 1793 by omega) hdis ?_ (z o) 0 (by omega)
  have ew : cwA (upN (upN α 21 (aG s o) (α 21 (aG s o) - z o)) 5 t (α 5 t + z o)) o (st s α t + α 5 t) (z o) 1 o = α 1 o := if_neg (fun q => hdis o (Nat.le_refl _) (by omega) q.2)
  rw [wX5_copy_b139]
  refine ⟨fun _ => ?_, fun q => ?_⟩
  · refine M_fields (by omega) (by rw [ew]; omega) ?_
    rw [ew]
    have key : ∀ y : Int32, y = nI A' → wX5_copy_b195 (nI o) (nI (st s α t + α 5 t)) (nI t) (nI (z o)) (nI (aG s o)) y 8 (nI (α 1 o % 8)) (nI (st s α t + α 5 t)) (nR (cwA (upN (upN α 21 (aG s o) (α 21 (aG s o) - z o)) 5 t (α 5 t + z o)) o (st s α t + α 5 t) (z o))) Q := by
      rintro y rfl
      unfold wX5_copy_b195 wX5_copy_b228
      refine ⟨(vp_nI (by omega)).mpr (by omega), (vp_nI (by omega)).mpr (by omega), ?_⟩
      rintro S35 rfl
      rw [nI_clamp (show o < 2 ^ 31 by omega), nI_clamp (by omega), nR_at, ew, and64 _ hw.2, show (8 : Int32) = nI 8 from rfl, pk_mul, nI_add, nI_add, ← hh, up2_nR]
      have e25 : nR (upN (cwA (upN (upN α 21 (aG s o) (α 21 (aG s o) - z o)) 5 t (α 5 t + z o)) o (st s α t + α 5 t) (z o)) 1 (st s α t + α 5 t) hd) 0 25 = nI (α 0 25) := rfl
      refine ⟨fun q => ?_, fun q => ?_⟩
      · rw [nI_leI (by omega) (by omega)] at q
        rintro S38 rfl S40 rfl
        refine ⟨(vp_nI (by omega)).mpr (by omega), ?_⟩
        rintro S42 rfl
        have e := cp_end (α := α) (o := o) (a := st s α t + α 5 t) (n := z o) (hd := hd) hgt
        rw [if_neg (show ¬ aG s o < t by omega), Nat.add_zero] at e
        rw [e25, up2_nR]
        rw [show nR (upN (upN (cwA (upN (upN α 21 (aG s o) (α 21 (aG s o) - z o)) 5 t (α 5 t + z o)) o (st s α t + α 5 t) (z o)) 1 (st s α t + α 5 t) hd) 0 25 (α 0 25)) 0 32 = nI (α 0 32) from rfl, nI_add, up2_nR, up2_nR, e]
        exact hq
      · rw [nI_leI (by omega) (by omega)] at q
        rintro S38 rfl S40 rfl
        refine ⟨(vp_nI (by omega)).mpr (by omega), ?_⟩
        rintro S42 rfl
        have e := cp_end (α := α) (o := o) (a := st s α t + α 5 t) (n := z o) (hd := hd) hgt
        rw [if_pos (show aG s o < t by omega)] at e
        rw [e25, nI_1, up2_nR]
        rw [show nR (upN (upN (cwA (upN (upN α 21 (aG s o) (α 21 (aG s o) - z o)) 5 t (α 5 t + z o)) o (st s α t + α 5 t) (z o)) 1 (st s α t + α 5 t) hd) 0 25 (α 0 25 + 1)) 0 32 = nI (α 0 32) from rfl, nI_add, up2_nR, up2_nR, e]
        exact hq
    refine ⟨fun q => key _ ?_, fun q => key _ ?_⟩
    · rw [nI_leI (by omega) (by omega)] at q
      rw [hA', if_pos q]
    · rw [nI_leI (by omega) (by omega)] at q
      rw [hA', if_neg q]
      rfl
  · exact absurd (nI_le (Nat.le_refl _) (by omega)) q
theorem M_copy (h : CG s b c α z o t hd) (hw : HD (α 1 o) (z o)) (ht : CT s c α z o t hd) {Q : Int32 → (Nat → Nat → Int32) → Prop} (hq : Q (nI (st s α t + α 5 t)) (nR (cpA α o (aG s o) t (st s α t + α 5 t) (z o) hd))) : wX5_copy (nI o) (nR α) Q := by
  have hl := cp_left h
  have hn := h.1
  have ho := h.2.2.2.2.1
  have hop := OF_pz h.2.2.1 h.2.2.2.2.1
  have hfb := F_bd hn ho.1.1
  have hg := aG_lt s o
  have ho2 := ho.1.2
  have hn1 := Gn_left hn (g := aG s o) (x := α 21 (aG s o) - z o) (by omega)
  have hs1 := hn.1.2.1
  have hsz := sz_lt (g := aG s o) hs1
  have hld : α 21 (aG s o) ≤ 512 := by
    have := (hn.2.1 _ hg).2.1
    rw [if_pos ho.1.1] at this
    omega
  have hb := hw
  unfold HD at hb
  unfold wX5_copy
  refine M_gen' hn (by omega) ?_
  refine M_fields (by omega) (by omega) ?_
  rintro x5 rfl
  refine M_age (by omega) (by omega) ?_
  have e2 : nI (α 1 o % 8) + 2 = nI (z o) := by
    rw [show (2 : Int32) = nI 2 from rfl, nI_add, hb.1]
  rw [e2]
  have key : ∀ y : Int32, y = nI (agN (α 1 o)) → wX5_copy_b36 (nI o) (nI (z o)) (nI (aG s o)) y (nR α) Q := by
    rintro y rfl
    have hA := agN_le (α 1 o)
    unfold wX5_copy_b36
    refine ⟨(vp_nI (by omega)).mpr (by omega), (vp_nI (by omega)).mpr (by omega), ?_⟩
    rintro S12 rfl
    rw [nI_clamp (show aG s o < 2 ^ 31 by omega), nR_at, pk_sub hl, up2_nR, show (2 : Int32) = nI 2 from rfl, nI_leI (by omega) (by omega)]
    have stay : (t = aG s o) → wX5_copy_b94 (nI o) (nI (agN (α 1 o))) (nI (z o)) (nI (aG s o)) (nR (upN α 21 (aG s o) (α 21 (aG s o) - z o))) Q := fun e => by
      unfold wX5_copy_b94
      have := M_cp95 h hw hA (A' := agN (α 1 o)) (by rw [if_pos (by omega)]) (by
        rcases ht with q | q
        · omega
        · exact q.2.2) hq
      rw [e] at this
      exact this
    refine ⟨fun q => stay ?_, fun q => ⟨fun q2 => absurd q2 q, fun _ => ?_⟩⟩
    · rcases ht with q2 | q2
      · omega
      · exact q2.1
    · unfold wX5_copy_b73
      rw [nI_clamp (show aG s o < 2 ^ 31 by omega), nI_1]
      have e3 : nR (upN α 21 (aG s o) (α 21 (aG s o) - z o)) 3 (aG s o) = nI (α 3 (aG s o)) := rfl
      have hl3 : α 3 (aG s o) ≤ 6 := by
        have := hn.1.2.2.2.2.2.2.2
        rcases (show aG s o = 0 ∨ aG s o = 1 by omega) with q5 | q5 <;> rw [q5] <;> omega
      rw [e3, nI_leI (by omega) (by omega)]
      refine ⟨(vp_nI (by omega)).mpr (by omega), fun q3 => stay ?_, fun q3 => ?_⟩
      · rcases ht with q2 | q2
        · omega
        · exact q2.1
      · have hc0 : 0 < c := Nat.lt_of_le_of_lt (Nat.zero_le _) ho.1.1
        have hl2 : aG s o + 1 < c → upN α 21 (aG s o) (α 21 (aG s o) - z o) 21 (aG s o + 1) ≤ 512 := fun q4 => by
          have e6 : upN α 21 (aG s o) (α 21 (aG s o) - z o) 21 (aG s o + 1) = α 21 (aG s o + 1) := upN_ne α (Or.inr (by omega))
          have := (hn.2.1 (aG s o + 1) (by omega)).2.1
          rw [if_pos q4] at this
          have := sz_lt (g := aG s o + 1) hs1
          omega
        refine M_fits hn1 hc0 (by omega) (by omega) hl2 (fun q4 => ?_) (fun q4 => ?_)
        · refine ⟨fun q5 => (by simp at q5), fun _ => ?_⟩
          have e6 : upN α 21 (aG s o) (α 21 (aG s o) - z o) 21 (aG s o + 1) = α 21 (aG s o + 1) := upN_ne α (Or.inr (by omega))
          rw [e6] at q4
          have q4' : α 5 (aG s o + 1) + z o + (if aG s o + 1 < c then α 21 (aG s o + 1) else 0) ≤ sz s (aG s o + 1) := q4
          rcases ht with q2 | q2
          · have := M_cp95 h hw hA (A' := 0) (by rw [if_neg (by omega)]) q2.2.2.2.2 hq
            rw [q2.1] at this
            exact this
          · exact absurd q4' (q2.2.1 (by omega) (by omega))
        · refine ⟨fun _ => stay ?_, fun q5 => (by simp at q5)⟩
          have e6 : upN α 21 (aG s o) (α 21 (aG s o) - z o) 21 (aG s o + 1) = α 21 (aG s o + 1) := upN_ne α (Or.inr (by omega))
          rw [e6] at q4
          rcases ht with q2 | q2
          · exact absurd q2.2.2.2.1 q4
          · exact q2.1
  rw [show (7 : Int32) = nI 7 from rfl, nI_leI (by omega) (by omega)]
  refine ⟨fun q => key _ ?_, fun q => ?_⟩
  · unfold agN
    rw [if_pos q]
  · refine M_age (by omega) (by omega) ?_
    rw [nI_1]
    refine key _ ?_
    unfold agN
    rw [if_neg q]
end PMC
