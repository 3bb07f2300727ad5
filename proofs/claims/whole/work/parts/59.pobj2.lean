/-! THE PURE PART: both make an object, joined -/
section PO2
variable {s b : Nat} {α : Nat → Nat → Nat} {z : Nat → Nat} {S : Nat → Nat → Int32} {n : Nat → Nat}
theorem st0_lt (hn : Gn s b 0 α) : st s α 0 + sz s 0 ≤ 1 + 14 * s := by
  have q1 := hb_in (s := s) (h := α 4 0) (show 0 < 3 by omega)
  have q2 := bs_top (s := s) (show 0 < 3 by omega)
  unfold st
  omega
theorem J_mk {n0 lab : Nat} {a3 : Int32} (hN : LN n s b) (h6 : n0 ≤ 6) (hi' : Gi s b 0 α z 0 0 (fun _ => True)) (hr : RS s 0 α z S) : ∃ α' z' S' r, Gi s b 0 α' z' 0 0 (fun _ => True) ∧ RS s 0 α' z' S' ∧ FS0 α α' ∧ (∀ Q : Int32 → (Nat → Nat → Int32) → Prop, Q (nI r) (nR α') → wX5_object_b41 (nI n0) (nI lab) a3 (nR α) Q) ∧ (∀ Q : Int32 → (Nat → Nat → Int32) → Prop, Q (nI r) S' → wX1_newObject_b45 n (nI n0) (nI lab) a3 0 (nI (2 + n0)) S Q) ∧ (r = 0 ∨ (OU s α' z' r ∧ z' r = n0 + 2)) := by
  have hn := hi'.1
  have hs1 := hn.1.2.1
  have hsz := sz_lt (g := 0) hs1
  have h5 := hn.2.1 0 (by omega)
  rw [if_neg (by omega)] at h5
  have hub := U_bd hn (show 0 < 3 by omega)
  have hst := st0_lt hn
  have hn26 : n 26 = 1 + 14 * s := hN.2.2.2.2.2.2.2.2.2.2.1
  have hn19 : n 19 = 7 * s / 2 := hN.2.2.2.1
  obtain ⟨g0, g1, g2, g3, g4, g5, g6, g7, g8, g9⟩ := hr.1 0 (by omega)
  rw [if_neg (by omega)] at g7
  -- where it does not fit
  by_cases hfit : α 5 0 + n0 + 2 ≤ sz s 0
  · -- the two heads
    have key : ∀ (hd : Nat) (y0 : Int32), hd = (if a3 = 0 then n0 else n0 + 64) → ∃ α' z' S' r, Gi s b 0 α' z' 0 0 (fun _ => True) ∧ RS s 0 α' z' S' ∧ FS0 α α' ∧ (∀ Q : Int32 → (Nat → Nat → Int32) → Prop, Q (nI r) (nR α') → wX5_object_b129 (nI n0) (nI lab) a3 1 (nI n0) (nI (st s α 0 + α 5 0)) (nR (nwA α (st s α 0 + α 5 0) n0 hd lab)) Q) ∧ (∀ Q : Int32 → (Nat → Nat → Int32) → Prop, Q (nI r) S' → wX1_newObject_b98 n (nI n0) (nI lab) a3 1 (nI n0) (nI (st s α 0 + α 5 0)) (nwS S (st s α 0 + α 5 0) n0 hd lab (α 5 0 + n0 + 2)) Q) ∧ (r = st s α 0 + α 5 0 ∧ OU s α' z' r ∧ z' r = n0 + 2) := by
      intro hd _ hhd
      have hHD : HD hd (n0 + 2) := by
        unfold HD
        rw [hhd]
        split <;> omega
      have gi := nw_Gi (lab := lab) hi' h6 hHD hfit
      have gr := nw_RS (hd := hd) (lab := lab) hn hfit hr
      have hU : OU s (nwA α (st s α 0 + α 5 0) n0 hd lab) (zA z (st s α 0 + α 5 0) (n0 + 2)) (st s α 0 + α 5 0) := (nw_OU hn hfit).mpr (Or.inr rfl)
      have hzz : zA z (st s α 0 + α 5 0) (n0 + 2) (st s α 0 + α 5 0) = n0 + 2 := if_pos rfl
      by_cases ha : a3 = 0
      · refine ⟨_, _, _, _, gi, gr, ⟨rfl, rfl, rfl⟩, fun Q hQ => ?_, fun Q hQ => ?_, rfl, hU, hzz⟩
        · rw [wX5_object_b129]
          exact ⟨fun _ => ⟨fun _ => hQ, fun q => absurd ha q⟩, fun q => absurd (nI_le (Nat.le_refl _) (by omega)) q⟩
        · rw [wX1_newObject_b98]
          exact ⟨fun _ => ⟨fun _ => hQ, fun q => absurd ha q⟩, fun q => absurd (nI_le (Nat.le_refl _) (by omega)) q⟩
      · have hno : ∀ x, Ob s 0 α z x → x ≠ st s α 0 + α 5 0 := fun x hx e => (nw_fresh hn hfit (a := st s α 0 + α 5 0) (Nat.le_refl _) (by omega)).2 (e ▸ (Ob_0 hx).1)
        obtain ⟨hcap, gi2, gr2⟩ := add9 gi gr hU (fun i hi => hno _ (hi'.2.2.2.2.2.1.2.2.2.2.2.1 i hi (Or.inr (Nat.zero_le i)))) (fun i hi => hno _ (hi'.2.2.2.2.2.1.2.2.2.2.2.2 i hi))
        have hcap' : α 0 12 + 1 ≤ 7 * s / 2 := hcap
        refine ⟨_, _, _, _, gi2, gr2, ⟨rfl, rfl, rfl⟩, fun Q hQ => ?_, fun Q hQ => ?_, rfl, hU, hzz⟩
        · rw [wX5_object_b129]
          refine ⟨fun _ => ⟨fun q => absurd q ha, fun _ => ?_⟩, fun q => absurd (nI_le (Nat.le_refl _) (by omega)) q⟩
          rw [nR_at, show nwA α (st s α 0 + α 5 0) n0 hd lab 0 12 = α 0 12 from rfl, nI_clamp (by omega)]
          refine ⟨(vp_nI (by omega)).mpr (by omega), ?_⟩
          rintro S27 rfl
          rw [up2_nR]
          rintro S29 rfl
          rw [nR_at, show upN (nwA α (st s α 0 + α 5 0) n0 hd lab) 9 (α 0 12) (st s α 0 + α 5 0) 0 12 = α 0 12 from rfl, nI_1, up2_nR]
          exact hQ
        · rw [wX1_newObject_b98]
          refine ⟨fun _ => ⟨fun q => absurd q ha, fun _ => ?_⟩, fun q => absurd (nI_le (Nat.le_refl _) (by omega)) q⟩
          refine C_add (cnt := α 0 12) gr.2.1.2.2.2.1.1 ?_ ?_ hQ
          · show α 0 12 < n 19
            omega
          · show n 19 < 2 ^ 20
            omega
    have hz26 : ∀ y, zlA y (st s α 0 + α 5 0 + 2) 0 = y := fun y => by
      funext j m
      exact if_neg (by omega)
    have hz26' : ∀ y, zlS y (st s α 0 + α 5 0 + 2) 0 = y := fun y => by
      funext j m
      exact if_neg (by omega)
    obtain ⟨α', z', S', r, k1, k2, k3, k4, k5, k6, k7, k8⟩ := key _ 0 rfl
    refine ⟨α', z', S', r, k1, k2, k3, fun Q hQ => ?_, fun Q hQ => ?_, Or.inr ⟨k7, k8⟩⟩
    · have mk : ∀ y0 : Int32, nI n0 + y0 = nI (if a3 = 0 then n0 else n0 + 64) → wX5_object_b114 (nI n0) (nI lab) a3 (nI (st s α 0 + α 5 0)) y0 (nI n0) (nI (st s α 0 + α 5 0)) (nR (upN α 5 0 (α 5 0 + n0 + 2))) Q := by
        intro y0 hy
        unfold wX5_object_b114
        rw [hy, nI_1, nI_clamp (show st s α 0 + α 5 0 < 2 ^ 31 by omega), nI_clamp (show st s α 0 + α 5 0 + 1 < 2 ^ 31 by omega), up2_nR]
        refine ⟨(vp_nI (by omega)).mpr (by omega), ?_⟩
        rintro S20 rfl
        refine ⟨(vp_nI (by omega)).mpr (by omega), ?_⟩
        rw [up2_nR]
        rintro S22 rfl
        have := M_zl (α := upN (upN (upN α 5 0 (α 5 0 + n0 + 2)) 1 (st s α 0 + α 5 0) (if a3 = 0 then n0 else n0 + 64)) 1 (st s α 0 + α 5 0 + 1) lab) (at' := st s α 0 + α 5 0) (n0 := n0) (a2 := nI lab) (a3 := a3) (by omega) (Q := Q) (by rw [nw_end]; exact k4 Q hQ) n0 0 (by omega)
        rw [hz26] at this
        exact ⟨_, this⟩
      unfold wX5_object_b41
      refine M_size' (g := 0) hn (by omega) ?_
      rw [nR_at, nI_add, show (2 : Int32) = nI 2 from rfl, nI_add, nI_leI (by omega) (by omega)]
      refine ⟨fun _ => ?_, fun q => absurd hfit q⟩
      refine M_begin' (g := 0) hn (by omega) h5.1 ?_
      rintro x15 rfl S17 rfl
      rw [nR_at, nI_add, nI_add, nI_add, up2_nR]
      refine ⟨fun q => mk _ ?_, fun q => mk _ ?_⟩
      · rw [if_pos q, Int32.add_zero]
      · rw [if_neg q, show (64 : Int32) = nI 64 from rfl, nI_add]
    · have mk : ∀ y0 : Int32, y0 = nI (if a3 = 0 then n0 else n0 + 64) → wX1_newObject_b84 n (nI n0) (nI lab) a3 (nI (st s α 0 + α 5 0)) y0 (nI (st s α 0 + α 5 0)) (up2 S (3 + 0) 5 (nI (α 5 0 + n0 + 2))) Q := by
        rintro y0 rfl
        unfold wX1_newObject_b84
        rw [nI_1, nI_clamp (show st s α 0 + α 5 0 < 2 ^ 31 by omega), nI_clamp (show st s α 0 + α 5 0 + 1 < 2 ^ 31 by omega)]
        refine ⟨(vp_nI (by omega)).mpr (by omega), ?_⟩
        rintro S20 rfl
        refine ⟨(vp_nI (by omega)).mpr (by omega), ?_⟩
        rintro S22 rfl
        have := C_zl (n := n) (S := up2 (up2 (up2 S (3 + 0) 5 (nI (α 5 0 + n0 + 2))) 26 (st s α 0 + α 5 0) (nI (if a3 = 0 then n0 else n0 + 64))) 26 (st s α 0 + α 5 0 + 1) (nI lab)) (at' := st s α 0 + α 5 0) (n0 := n0) (a2 := nI lab) (a3 := a3) (by omega) (by omega) (Q := Q) (by rw [nw_end']; exact k5 Q hQ) n0 0 (by omega)
        rw [hz26'] at this
        exact ⟨_, this⟩
      unfold wX1_newObject_b45
      refine C_fits (g := 0) g2 g5 g7 (by omega) (by omega) (by omega) (by omega) (fun _ => ?_) (fun q => absurd (by omega) q)
      refine ⟨fun q => (by simp at q), fun _ => ?_⟩
      unfold wX0_take
      rw [g4, g5, nI_add, nI_add, show α 5 0 + (2 + n0) = α 5 0 + n0 + 2 by omega]
      rintro x1 rfl S3 rfl
      refine ⟨fun q => mk _ ?_, fun q => mk _ ?_⟩
      · rw [if_pos q]
      · rw [if_neg q, show (64 : Int32) = nI 64 from rfl, nI_add]
  · refine ⟨α, z, S, 0, hi', hr, ⟨rfl, rfl, rfl⟩, fun Q hQ => ?_, fun Q hQ => ?_, Or.inl rfl⟩
    · unfold wX5_object_b41
      refine M_size' (g := 0) hn (by omega) ?_
      rw [nR_at, nI_add, show (2 : Int32) = nI 2 from rfl, nI_add, nI_leI (by omega) (by omega)]
      exact ⟨fun q => absurd q hfit, fun _ => hQ⟩
    · unfold wX1_newObject_b45
      refine C_fits (g := 0) g2 g5 g7 (by omega) (by omega) (by omega) (by omega) (fun q => absurd q (by omega)) (fun _ => ?_)
      exact ⟨fun _ => hQ, fun q => (by simp at q)⟩
theorem FS0_tr {α1 α2 : Nat → Nat → Nat} (h : FS0 α α1) (h' : FS0 α1 α2) : FS0 α α2 := ⟨h'.1.trans h.1, h'.2.1.trans h.2.1, h'.2.2.trans h.2.2⟩
theorem L_object {n0 lab : Nat} {a3 : Int32} (hN : LN n s b) (h6 : n0 ≤ 6) : ∀ m k (α : Nat → Nat → Nat) (z : Nat → Nat) (S : Nat → Nat → Int32), k + m = 3 → Gi s b 0 α z 0 0 (fun _ => True) → RS s 0 α z S → ∃ α' z' S' r, Gi s b 0 α' z' 0 0 (fun _ => True) ∧ RS s 0 α' z' S' ∧ FS0 α α' ∧ (∀ Q : Int32 → (Nat → Nat → Int32) → Prop, Q (nI r) (nR α') → wX5_object_b3 (nI n0) (nI lab) a3 (m + 1) (nI k) (nR α) Q) ∧ (∀ Q : Int32 → (Nat → Nat → Int32) → Prop, Q (nI r) S' → wX1_newObject_b16 n (nI n0) (nI lab) a3 (m + 1) (nI k) 0 (nI (2 + n0)) S Q) ∧ (r = 0 ∨ (OU s α' z' r ∧ z' r = n0 + 2))
  | 0, k, α, z, S, e, hi', hr => by
    obtain ⟨α', z', S', r, k1, k2, k3, k4, k5, k6⟩ := J_mk (lab := lab) (a3 := a3) hN h6 hi' hr
    refine ⟨α', z', S', r, k1, k2, k3, fun Q hQ => ?_, fun Q hQ => ?_, k6⟩
    · rw [wX5_object_b3, show (3 : Int32) = nI 3 from rfl, nI_leI (by omega) (by omega)]
      exact ⟨fun _ => k4 Q hQ, fun q => absurd (show 3 ≤ k by omega) q⟩
    · rw [wX1_newObject_b16, show (3 : Int32) = nI 3 from rfl, nI_leI (by omega) (by omega)]
      exact ⟨fun _ => k5 Q hQ, fun q => absurd (show 3 ≤ k by omega) q⟩
  | m + 1, k, α, z, S, e, hi', hr => by
    have hn := hi'.1
    have hs1 := hn.1.2.1
    have hsz := sz_lt (g := 0) hs1
    have h5 := hn.2.1 0 (by omega)
    rw [if_neg (by omega)] at h5
    obtain ⟨g0, g1, g2, g3, g4, g5, g6, g7, g8, g9⟩ := hr.1 0 (by omega)
    rw [if_neg (by omega)] at g7
    by_cases hfit : α 5 0 + n0 + 2 ≤ sz s 0
    · obtain ⟨α', z', S', r, k1, k2, k3, k4, k5, k6⟩ := J_mk (lab := lab) (a3 := a3) hN h6 hi' hr
      refine ⟨α', z', S', r, k1, k2, k3, fun Q hQ => ?_, fun Q hQ => ?_, k6⟩
      · rw [wX5_object_b3, show (3 : Int32) = nI 3 from rfl, nI_leI (by omega) (by omega)]
        refine ⟨fun q => absurd q (by omega), fun _ => ?_⟩
        refine M_size' (g := 0) hn (by omega) ?_
        rw [nR_at, nI_add, show (2 : Int32) = nI 2 from rfl, nI_add, nI_leI (by omega) (by omega)]
        exact ⟨fun _ => k4 Q hQ, fun q => absurd hfit q⟩
      · rw [wX1_newObject_b16, show (3 : Int32) = nI 3 from rfl, nI_leI (by omega) (by omega)]
        refine ⟨fun q => absurd q (by omega), fun _ => ?_⟩
        refine C_fits (g := 0) g2 g5 g7 (by omega) (by omega) (by omega) (by omega) (fun _ => ?_) (fun q => absurd (by omega) q)
        exact ⟨fun q => (by simp at q), fun _ => k5 Q hQ⟩
    · obtain ⟨α1, z1, S1, r1, j1, j2, j3, j4, j5⟩ := J_gather hN (show k < 3 by omega) hi' hr
      obtain ⟨α', z', S', r, k1, k2, k3, k4, k5, k6⟩ := L_object hN h6 m (k + 1) α1 z1 S1 (by omega) j1 j2
      refine ⟨α', z', S', r, k1, k2, FS0_tr j3 k3, fun Q hQ => ?_, fun Q hQ => ?_, k6⟩
      · rw [wX5_object_b3, show (3 : Int32) = nI 3 from rfl, nI_leI (by omega) (by omega)]
        refine ⟨fun q => absurd q (by omega), fun _ => ?_⟩
        refine M_size' (g := 0) hn (by omega) ?_
        rw [nR_at, nI_add, show (2 : Int32) = nI 2 from rfl, nI_add, nI_leI (by omega) (by omega)]
        refine ⟨fun q => absurd q hfit, fun _ => j4 _ ?_⟩
        rintro x8 rfl
        rw [nI_1]
        exact k4 Q hQ
      · rw [wX1_newObject_b16, show (3 : Int32) = nI 3 from rfl, nI_leI (by omega) (by omega)]
        refine ⟨fun q => absurd q (by omega), fun _ => ?_⟩
        refine C_fits (g := 0) g2 g5 g7 (by omega) (by omega) (by omega) (by omega) (fun q => absurd q (by omega)) (fun _ => ?_)
        refine ⟨fun _ => j5 _ ?_, fun q => (by simp at q)⟩
        rintro x11 rfl
        rw [nI_1]
        exact k5 Q hQ
theorem J_object {n0 lab : Nat} {a3 : Int32} (hN : LN n s b) (h6 : n0 ≤ 6) (hi' : Gi s b 0 α z 0 0 (fun _ => True)) (hr : RS s 0 α z S) : ∃ α' z' S' r, Gi s b 0 α' z' 0 0 (fun _ => True) ∧ RS s 0 α' z' S' ∧ FS0 α α' ∧ (∀ Q : Int32 → (Nat → Nat → Int32) → Prop, Q (nI r) (nR α') → wX5_object (nI n0) (nI lab) a3 (nR α) Q) ∧ (∀ Q : Int32 → (Nat → Nat → Int32) → Prop, Q (nI r) S' → wX1_newObject n (nI n0) (nI lab) a3 S Q) ∧ (r = 0 ∨ (OU s α' z' r ∧ z' r = n0 + 2)) := by
  obtain ⟨α', z', S', r, k1, k2, k3, k4, k5, k6⟩ := L_object (lab := lab) (a3 := a3) hN h6 3 0 α z S rfl hi' hr
  refine ⟨α', z', S', r, k1, k2, k3, fun Q hQ => ⟨4, k4 Q hQ⟩, fun Q hQ => ?_, k6⟩
  unfold wX1_newObject
  rw [show (2 : Int32) = nI 2 from rfl, nI_add]
  rintro x1 rfl
  exact ⟨4, k5 Q hQ⟩
end PO2
