/-! THE PURE PART: a collection begins: the class, and both prefixes -/
def CB (s : Nat) (α : Nat → Nat → Nat) (g0 k : Nat) (S Sk : Nat → Nat → Int32) : Prop :=
  (∀ g, g < k → g ≤ g0 → Sk (3 + g) 4 = nI (hb s g (1 - α 4 g)) ∧ Sk (3 + g) 5 = nI 0 ∧ Sk (3 + g) 6 = nI (st s α g) ∧ Sk (3 + g) 7 = nI (α 5 g) ∧ Sk (3 + g) 8 = nI 0) ∧
  (∀ g, g < k → g0 < g → Sk (3 + g) 8 = nI (α 5 g)) ∧
  (∀ g, g < 3 → ∀ i, (i ≠ 4 ∧ i ≠ 5 ∧ i ≠ 6 ∧ i ≠ 7 ∧ i ≠ 8) ∨ ((k ≤ g ∨ g0 < g) ∧ i ≠ 8) → Sk (3 + g) i = S (3 + g) i) ∧
  (∀ r, r < 3 ∨ 6 ≤ r → Sk r = S r)
section PPC
variable {s b : Nat} {α : Nat → Nat → Nat} {z : Nat → Nat} {g0 : Nat} {S : Nat → Nat → Int32} {n : Nat → Nat}
theorem rw_PBg {α3 : Nat → Nat → Nat} (hg0 : g0 < 3) (hc : ∀ r, r < 2 → α 12 r < 1000) (h : QB s α g0 3 α3) : PBg s α g0 (rwA (rwA α3 0) 1) := by
  obtain ⟨a1, a2, a3, a4, a5, a6⟩ := h
  have e12 := a6 12 (by omega) (by omega) (by omega) (by omega) (by omega) (by omega) (by omega) (by omega)
  have e13 := a6 13 (by omega) (by omega) (by omega) (by omega) (by omega) (by omega) (by omega) (by omega)
  have c0 := hc 0 (by omega)
  have row : ∀ k, k ≠ 12 → k ≠ 14 → k ≠ 15 → rwA (rwA α3 0) 1 k = α3 k := fun k h1 h2 h3 => by
    funext i
    simp [rwA, crA, upN, h1, h2, h3]
  refine ⟨?_, fun g hg hgg => ?_, fun g hg hgg => ?_, fun g hg hgg i h1 h2 => ?_, fun r hr => ?_, fun k h0 h2 h4 h5 h12 h14 h15 h19 h20 h21 h22 => ?_⟩
  · rw [row 0 (by omega) (by omega) (by omega)]
    exact a1
  · rw [row 19 (by omega) (by omega) (by omega), row 20 (by omega) (by omega) (by omega), row 21 (by omega) (by omega) (by omega), row 4 (by omega) (by omega) (by omega), row 5 (by omega) (by omega) (by omega), row 22 (by omega) (by omega) (by omega)]
    exact a2 g hg hgg
  · rw [row 4 (by omega) (by omega) (by omega), row 5 (by omega) (by omega) (by omega), row 22 (by omega) (by omega) (by omega)]
    exact ⟨(a4 g hg (Or.inr hgg)).1, (a4 g hg (Or.inr hgg)).2, a3 g hg hgg⟩
  · rw [row 2 (by omega) (by omega) (by omega)]
    exact a5 g hg hgg i h1 h2
  · rw [← e12, ← e13]
    have hc1 := hc 1 (by omega)
    rw [← e12] at c0 hc1
    have t12 : ∀ β : Nat → Nat → Nat, ∀ r k, rwA β r 12 k = if k = r then 0 else β 12 k := fun β r k => by simp [rwA, crA, upN]
    have t14 : ∀ β : Nat → Nat → Nat, ∀ r k, rwA β r 14 k = if k = r then β 12 r else β 14 k := fun β r k => by simp [rwA, crA, upN]
    have t15 : ∀ β : Nat → Nat → Nat, ∀ r k, rwA β r 15 k = if 1000 * r ≤ k ∧ k < 1000 * r + β 12 r then β 13 k else β 15 k := fun β r k => by simp [rwA, crA, upN]
    have t13 : ∀ β : Nat → Nat → Nat, ∀ r k, rwA β r 13 k = β 13 k := fun β r k => by simp [rwA, crA, upN]
    have e121 : rwA α3 0 12 1 = α3 12 1 := by rw [t12, if_neg (by omega)]
    rcases (show r = 0 ∨ r = 1 by omega) with e | e
    · subst e
      refine ⟨?_, ?_, fun i hi => ?_⟩
      · rw [t14, if_neg (by omega), t14, if_pos rfl]
      · rw [t12, if_neg (by omega), t12, if_pos rfl]
      · rw [t15, e121, if_neg (by omega), t15, if_pos (by omega)]
    · subst e
      refine ⟨?_, ?_, fun i hi => ?_⟩
      · rw [t14, if_pos rfl, t12, if_neg (by omega)]
      · rw [t12, if_pos rfl]
      · rw [t15, e121, if_pos (by omega), t13]
  · rw [row k h12 h14 h15]
    exact a6 k h0 h2 h4 h5 h19 h20 h21 h22
theorem M_pref (hn : Gn s b 0 α) (hg0 : g0 < 3) (hc : ∀ r, r < 2 → α 12 r < 1000) : ∃ α', PBg s α g0 α' ∧ (∀ Q : Int32 → (Nat → Nat → Int32) → Prop, (∃ f, wX5_gather_b219 (nI g0) f 0 (nR α') Q) → ∃ f, wX5_gather_b16 (nI g0) f 0 (nR (upN (upN α 0 31 g0) 0 32 0)) Q) := by
  have h0 : QB s α g0 0 (upN (upN α 0 31 g0) 0 32 0) := ⟨⟨rfl, rfl, fun i h1 h2 => by rw [upN_ne _ (Or.inr h2), upN_ne _ (Or.inr h1)]⟩, fun g hg => by omega, fun g hg => by omega, fun g _ _ => ⟨rfl, rfl⟩, fun g hg => by omega, fun r h0 _ _ _ _ _ _ _ => by rw [upN_row _ h0, upN_row _ h0]⟩
  obtain ⟨α3, i1, i2⟩ := M_begins hn hg0 3 0 _ rfl h0
  have e12 := i1.2.2.2.2.2 12 (by omega) (by omega) (by omega) (by omega) (by omega) (by omega) (by omega) (by omega)
  refine ⟨_, rw_PBg hg0 hc i1, fun Q hQ => ⟨_, i2 Q ?_⟩⟩
  refine ⟨3, M_oldr (r := 0) (by omega) (by rw [e12]; exact hc 0 (by omega)) ?_⟩
  refine M_oldr (r := 1) (by omega) (by
    have : rwA α3 0 12 1 = α3 12 1 := by simp [rwA, crA, upN]
    rw [this, e12]
    exact hc 1 (by omega)) ?_
  rw [wX5_gather_b145]
  exact ⟨fun _ => hQ, fun q => absurd (show (2 : Int32) ≤ nI 2 by decide) q⟩
theorem CB_hi {Sk : Nat → Nat → Int32} {k : Nat} (hk : k < 3) (hkg : g0 < k) (hr : RG s 0 α S) (h : CB s α g0 k S Sk) : CB s α g0 (k + 1) S (up2 Sk (3 + k) 8 (Sk (3 + k) 5)) := by
  obtain ⟨a1, a2, a3, a4⟩ := h
  refine ⟨fun g hg hgg => ?_, fun g hg hgg => ?_, fun g hg i hi => ?_, fun r hr => ?_⟩
  · rw [up2_row _ (by omega)]
    exact a1 g (by omega) hgg
  · by_cases e : g = k
    · rw [e, up2_hit, a3 k hk 5 (by omega), (hr k hk).2.2.2.2.2.1]
    · rw [up2_row _ (by omega)]
      exact a2 g (by omega) hgg
  · rw [up2_mis' _ (by omega)]
    exact a3 g hg i (by omega)
  · rw [up2_row _ (by omega)]
    exact a4 r hr
def bgS (S : Nat → Nat → Int32) (k : Nat) (x6 x7 x4 : Int32) : Nat → Nat → Int32 := up2 (up2 (up2 (up2 (up2 S (3 + k) 6 x6) (3 + k) 7 x7) (3 + k) 4 x4) (3 + k) 5 0) (3 + k) 8 0
theorem bgS_at {k i : Nat} {x6 x7 x4 : Int32} : bgS S k x6 x7 x4 (3 + k) i = if i = 8 then 0 else if i = 5 then 0 else if i = 4 then x4 else if i = 7 then x7 else if i = 6 then x6 else S (3 + k) i := by
  unfold bgS
  rw [up2_get, up2_get, up2_get, up2_get, up2_get]
  simp
theorem bgS_row {k r : Nat} {x6 x7 x4 : Int32} (h : r ≠ 3 + k) : bgS S k x6 x7 x4 r = S r := by
  unfold bgS
  rw [up2_row _ h, up2_row _ h, up2_row _ h, up2_row _ h, up2_row _ h]
theorem CB_lo {Sk : Nat → Nat → Int32} {k : Nat} (hk : k < 3) (hkg : k ≤ g0) (h : CB s α g0 k S Sk) : CB s α g0 (k + 1) S (bgS Sk k (nI (st s α k)) (nI (α 5 k)) (nI (hb s k (1 - α 4 k)))) := by
  obtain ⟨a1, a2, a3, a4⟩ := h
  refine ⟨fun g hg hgg => ?_, fun g hg hgg => ?_, fun g hg i hi => ?_, fun r hr => ?_⟩
  · by_cases e : g = k
    · rw [e]
      simp only [bgS_at]
      exact ⟨rfl, rfl, rfl, rfl, rfl⟩
    · rw [bgS_row (by omega)]
      exact a1 g (by omega) hgg
  · rw [bgS_row (by omega)]
    exact a2 g (by omega) hgg
  · by_cases e : g = k
    · rw [e] at hi ⊢
      rw [bgS_at, if_neg (by omega), if_neg (by omega), if_neg (by omega), if_neg (by omega), if_neg (by omega)]
      exact a3 k hk i (by omega)
    · rw [bgS_row (by omega)]
      exact a3 g hg i (by omega)
  · rw [bgS_row (by omega)]
    exact a4 r hr
theorem C_begins {x : Int32} (hn : Gn s b 0 α) (hg0 : g0 < 3) (hr : RG s 0 α S) : ∀ m k (Sk : Nat → Nat → Int32), k + m = 3 → CB s α g0 k S Sk → ∃ S', CB s α g0 3 S S' ∧ (∀ Q : Int32 → (Nat → Nat → Int32) → Prop, wX1_gather_b11 n (nI g0) 1 (nI 3) x S' Q → wX1_gather_b11 n (nI g0) (m + 1) (nI k) x Sk Q)
  | 0, k, Sk, e, h => by
    have e2 : k = 3 := by omega
    subst e2
    exact ⟨Sk, h, fun Q hQ => hQ⟩
  | m + 1, k, Sk, e, h => by
    have hk : k < 3 := by omega
    have hs1 := hn.1.2.1
    have hub := U_bd hn hk
    have hsz := sz_lt (g := k) hs1
    have h5 := hn.2.1 k hk
    rw [if_neg (by omega)] at h5
    obtain ⟨q0, q1, q2, q3, q4, q5, q6, q7, q8, q9⟩ := hr k hk
    by_cases hkg : k ≤ g0
    · obtain ⟨S2, i1, i2⟩ := C_begins (x := x) hn hg0 hr m (k + 1) _ (by omega) (CB_lo hk hkg h)
      refine ⟨S2, i1, fun Q hQ => ?_⟩
      have hj := i2 Q hQ
      have a3 := h.2.2.1 k hk
      rw [wX1_gather_b11, show (3 : Int32) = nI 3 from rfl, nI_leI (by omega) (by omega), nI_ltI (by omega) (by omega), nI_clamp (by omega)]
      refine ⟨fun q => absurd q (by omega), fun _ => ⟨(vp_nI (by omega)).mpr hk, fun q => absurd q (by omega), fun _ => ?_⟩⟩
      unfold wX1_gather_b32 wX0_begin
      refine ⟨fun q => absurd q (by decide), fun _ => ?_⟩
      rintro S2 rfl S4 rfl
      rw [a3 4 (by omega), q4]
      have r7 : up2 Sk (3 + k) 6 (nI (st s α k)) (3 + k) 5 = nI (α 5 k) := by rw [up2_mis _ _ (by omega), a3 5 (by omega), q5]
      rw [r7]
      have r6 : up2 (up2 Sk (3 + k) 6 (nI (st s α k))) (3 + k) 7 (nI (α 5 k)) (3 + k) 6 = nI (st s α k) := by rw [up2_mis _ _ (by omega), up2_hit]
      have r1 : up2 (up2 Sk (3 + k) 6 (nI (st s α k))) (3 + k) 7 (nI (α 5 k)) (3 + k) 1 = nI (bs s k) := by rw [up2_mis _ _ (by omega), up2_mis _ _ (by omega), a3 1 (by omega), q1]
      have r2 : up2 (up2 Sk (3 + k) 6 (nI (st s α k))) (3 + k) 7 (nI (α 5 k)) (3 + k) 2 = nI (sz s k) := by rw [up2_mis _ _ (by omega), up2_mis _ _ (by omega), a3 2 (by omega), q2]
      rw [r6, r1, r2, nI_add]
      have hbb := hb_in (s := s) (h := α 4 k) hk
      have key : ∀ y : Int32, y = nI (hb s k (1 - α 4 k)) → wX0_begin_b48 n k 1 y k (up2 (up2 Sk (3 + k) 6 (nI (st s α k))) (3 + k) 7 (nI (α 5 k))) (fun _ S40 => ∀ x41 : Int32, x41 = nI k + 1 → wX1_gather_b11 n (nI g0) (m + 1) x41 x S40 Q) := by
        rintro y rfl
        unfold wX0_begin_b48 wX0_begin_b56
        rintro S9 rfl S11 rfl S7 rfl x41 rfl
        rw [nI_1, up2_hit]
        exact hj
      have h4 : α 4 k = 0 ∨ α 4 k = 1 := by omega
      have hst : st s α k = hb s k (α 4 k) := rfl
      refine ⟨fun q => key _ ?_, fun q => key _ ?_⟩
      · rw [nI_eq (by omega) (by omega)] at q
        rcases h4 with h4 | h4
        · rw [h4]
          rfl
        · exfalso
          unfold st hb at q
          rw [h4, if_neg (by omega)] at q
          have : 0 < sz s k := by
            have := hn.1.1
            rcases (show k = 0 ∨ k = 1 ∨ k = 2 by omega) with e | e | e <;> rw [e] <;> simp only [sz] <;> omega
          omega
      · rw [nI_eq (by omega) (by omega)] at q
        rcases h4 with h4 | h4
        · exfalso
          unfold st hb at q
          rw [h4, if_pos rfl] at q
          exact q rfl
        · rw [h4]
          rfl
    · obtain ⟨S2, i1, i2⟩ := C_begins (x := x) hn hg0 hr m (k + 1) _ (by omega) (CB_hi hk (by omega) hr h)
      refine ⟨S2, i1, fun Q hQ => ?_⟩
      have hj := i2 Q hQ
      rw [wX1_gather_b11, show (3 : Int32) = nI 3 from rfl, nI_leI (by omega) (by omega), nI_ltI (by omega) (by omega), nI_clamp (by omega)]
      refine ⟨fun q => absurd q (by omega), fun _ => ⟨(vp_nI (by omega)).mpr hk, fun _ => ?_, fun q => absurd (show g0 < k by omega) q⟩⟩
      unfold wX1_gather_b32 wX0_begin wX0_begin_b56
      refine ⟨fun _ => ?_, fun q => absurd rfl q⟩
      rintro S7 rfl x41 rfl
      rw [nI_1]
      exact hj
/-- the rows are put aside -/
def paS (S : Nat → Nat → Int32) : Nat → Nat → Int32 := up2 (up2 (up2 (up2 S 1 9 (S 1 8)) 1 8 (S 1 9)) (rrow (S 1 9) 0) 1 0) (rrow (S 1 9) 1) 1 0
theorem pa_PSg {S3 : Nat → Nat → Int32} (h89 : S 1 9 = 0 ↔ ¬ S 1 8 = 0) (h : CB s α g0 3 S S3) : PSg s α g0 S (paS S3) := by
  obtain ⟨a1, a2, a3, a4⟩ := h
  have e1 := a4 1 (by omega)
  have r0 := rrow_in (S 1 9) (show 0 < 2 by omega)
  have r1 := rrow_in (S 1 9) (show 1 < 2 by omega)
  have row : ∀ k, k ≠ 1 → k ≠ rrow (S 1 9) 0 → k ≠ rrow (S 1 9) 1 → paS S3 k = S3 k := fun k h1 h2 h3 => by
    unfold paS
    rw [e1, up2_row _ h3, up2_row _ h2, up2_row _ h1, up2_row _ h1]
  have rone : ∀ i, paS S3 1 i = if i = 8 then S 1 9 else if i = 9 then S 1 8 else S 1 i := fun i => by
    unfold paS
    rw [e1, up2_row _ (by omega), up2_row _ (by omega), up2_get, up2_get, e1]
    simp
  refine ⟨⟨by rw [rone]; rfl, by rw [rone]; rfl, fun i h1 h2 => by rw [rone, if_neg h1, if_neg h2]⟩, fun g hg hgg => ?_, fun g hg hgg => ?_, fun g hg => ?_, fun r hr => ⟨?_, ?_⟩, fun k hk => ?_⟩
  · rw [row _ (by omega) (by omega) (by omega)]
    exact a1 g hg hgg
  · rw [row _ (by omega) (by omega) (by omega), a3 g hg 4 (by omega), a3 g hg 5 (by omega), a3 g hg 6 (by omega), a3 g hg 7 (by omega)]
    exact ⟨rfl, rfl, rfl, rfl, a2 g hg hgg⟩
  · rw [row _ (by omega) (by omega) (by omega), a3 g hg 0 (by omega), a3 g hg 1 (by omega), a3 g hg 2 (by omega), a3 g hg 3 (by omega), a3 g hg 9 (by omega)]
    exact ⟨rfl, rfl, rfl, rfl, rfl⟩
  · unfold paS
    rw [e1]
    rcases (show r = 0 ∨ r = 1 by omega) with e | e
    · subst e
      rw [up2_row _ (by omega), up2_hit]
      rfl
    · subst e
      rw [up2_hit]
      rfl
  · have r8 := rrow_in (S 1 8) hr
    have hne : ∀ q, q < 2 → rrow (S 1 8) r ≠ rrow (S 1 9) q := fun q hq => by
      have r9 := rrow_in (S 1 9) hq
      rcases r8 with t | t <;> rcases r9 with t2 | t2
      · exact absurd t.2 (h89.mp t2.2)
      · omega
      · omega
      · exact absurd (h89.mpr t.2) t2.2
    rw [row _ (by omega) (hne 0 (by omega)) (hne 1 (by omega))]
    exact a4 _ (by omega)
  · rw [row k (by omega) (by omega) (by omega)]
    exact a4 k (by omega)
end PPC
