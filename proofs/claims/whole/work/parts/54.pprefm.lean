/-! THE PURE PART: a collection begins: the model -/
def clA (α : Nat → Nat → Nat) (lo hi : Nat) : Nat → Nat → Nat := fun r i => if r = 2 ∧ lo ≤ i ∧ i < hi then 0 else α r i
def bgN (α : Nat → Nat → Nat) (k B u h : Nat) : Nat → Nat → Nat := upN (clA (upN (upN (upN (upN (upN α 19 k B) 20 k (B + u)) 21 k u) 4 k h) 5 k 0) B (B + u)) 22 k 0
def crA (α : Nat → Nat → Nat) (r k : Nat) : Nat → Nat → Nat := fun j i => if j = 15 ∧ 1000 * r ≤ i ∧ i < 1000 * r + k then α 13 i else α j i
def rwA (α : Nat → Nat → Nat) (r : Nat) : Nat → Nat → Nat := crA (upN (upN α 14 r (α 12 r)) 12 r 0) r (α 12 r)
def QB (s : Nat) (α : Nat → Nat → Nat) (g0 k : Nat) (αk : Nat → Nat → Nat) : Prop :=
  (αk 0 31 = g0 ∧ αk 0 32 = 0 ∧ ∀ i, i ≠ 31 → i ≠ 32 → αk 0 i = α 0 i) ∧
  (∀ g, g < k → g ≤ g0 → αk 19 g = st s α g ∧ αk 20 g = st s α g + α 5 g ∧ αk 21 g = α 5 g ∧ αk 4 g = 1 - α 4 g ∧ αk 5 g = 0 ∧ αk 22 g = 0) ∧
  (∀ g, g < k → g0 < g → αk 22 g = α 5 g) ∧ (∀ g, g < 3 → (k ≤ g ∨ g0 < g) → αk 4 g = α 4 g ∧ αk 5 g = α 5 g) ∧
  (∀ g, g < k → g ≤ g0 → ∀ i, st s α g ≤ i → i < st s α g + α 5 g → αk 2 i = 0) ∧
  (∀ r, r ≠ 0 → r ≠ 2 → r ≠ 4 → r ≠ 5 → r ≠ 19 → r ≠ 20 → r ≠ 21 → r ≠ 22 → αk r = α r)
section PPM
variable {s b : Nat} {α : Nat → Nat → Nat} {g0 : Nat}
theorem cl_S {lo i : Nat} (h : lo ≤ i) : upN (clA α lo i) 2 i 0 = clA α lo (i + 1) := by
  funext j m
  unfold upN clA
  by_cases e : j = 2 ∧ m = i
  · rw [if_pos e, if_pos (by omega)]
  · rw [if_neg e]
    by_cases e2 : j = 2 ∧ lo ≤ m ∧ m < i
    · rw [if_pos e2, if_pos (by omega)]
    · rw [if_neg e2, if_neg (by omega)]
theorem cl_0 {lo : Nat} : clA α lo lo = α := by
  funext j m
  exact if_neg (by omega)
theorem M_clr {k lo hi : Nat} {a1 : Int32} (hk : k < 3) (hhi : hi ≤ 1793) (hlo : lo ≤ hi) (h20 : α 20 k = hi) {K16 : Int32 → (Nat → Nat → Int32) → Prop} {Q : Int32 → (Nat → Nat → Int32) → Prop} (hq : wX5_gather_b125 a1 K16 (nI k) (nR (clA α lo hi)) Q) : ∀ m i, i + m = hi → lo ≤ i → wX5_gather_b102 a1 K16 (m + 1) (nI i) (nI k) (nR (clA α lo i)) Q
  | 0, i, e, hi2 => by
    have e20 : clA α lo i 20 k = hi := h20
    rw [wX5_gather_b102, nI_clamp (by omega), nR_at, e20, nI_leI (by omega) (by omega)]
    rw [show hi = i by omega] at hq
    exact ⟨(vp_nI (by omega)).mpr hk, fun _ => hq, fun q => absurd (show hi ≤ i by omega) q⟩
  | m + 1, i, e, hi2 => by
    have e20 : clA α lo i 20 k = hi := h20
    rw [wX5_gather_b102, nI_clamp (show k < 2 ^ 31 by omega), nR_at, e20, nI_leI (by omega) (by omega), nI_clamp (show i < 2 ^ 31 by omega)]
    refine ⟨(vp_nI (by omega)).mpr hk, fun q => absurd q (by omega), fun _ => ⟨(vp_nI (by omega)).mpr (by omega), ?_⟩⟩
    rintro S36 rfl x38 rfl
    rw [nI_1, ← nI_0, up2_nR, cl_S hi2]
    exact M_clr hk hhi hlo h20 hq m (i + 1) (by omega) (by omega)
theorem QB_lo {αk : Nat → Nat → Nat} {k : Nat} (hk : k < 3) (hkg : k ≤ g0) (h : QB s α g0 k αk) : QB s α g0 (k + 1) (bgN αk k (st s α k) (α 5 k) (1 - α 4 k)) := by
  obtain ⟨a1, a2, a3, a4, a5, a6⟩ := h
  have t19 : ∀ i, bgN αk k (st s α k) (α 5 k) (1 - α 4 k) 19 i = if i = k then st s α k else αk 19 i := fun i => by simp [bgN, upN, clA]
  have t20 : ∀ i, bgN αk k (st s α k) (α 5 k) (1 - α 4 k) 20 i = if i = k then st s α k + α 5 k else αk 20 i := fun i => by simp [bgN, upN, clA]
  have t21 : ∀ i, bgN αk k (st s α k) (α 5 k) (1 - α 4 k) 21 i = if i = k then α 5 k else αk 21 i := fun i => by simp [bgN, upN, clA]
  have t4 : ∀ i, bgN αk k (st s α k) (α 5 k) (1 - α 4 k) 4 i = if i = k then 1 - α 4 k else αk 4 i := fun i => by simp [bgN, upN, clA]
  have t5 : ∀ i, bgN αk k (st s α k) (α 5 k) (1 - α 4 k) 5 i = if i = k then 0 else αk 5 i := fun i => by simp [bgN, upN, clA]
  have t22 : ∀ i, bgN αk k (st s α k) (α 5 k) (1 - α 4 k) 22 i = if i = k then 0 else αk 22 i := fun i => by simp [bgN, upN, clA]
  have t2 : ∀ i, bgN αk k (st s α k) (α 5 k) (1 - α 4 k) 2 i = if st s α k ≤ i ∧ i < st s α k + α 5 k then 0 else αk 2 i := fun i => by simp [bgN, upN, clA]
  refine ⟨a1, fun g hg hgg => ?_, fun g hg hgg => ?_, fun g hg hgg => ?_, fun g hg hgg i h1 h2 => ?_, fun r h0 h2 h4 h5 h19 h20 h21 h22 => ?_⟩
  · rw [t19, t20, t21, t4, t5, t22]
    by_cases e : g = k
    · rw [if_pos e, if_pos e, if_pos e, if_pos e, if_pos e, if_pos e, e]
      exact ⟨rfl, rfl, rfl, rfl, rfl, rfl⟩
    · rw [if_neg e, if_neg e, if_neg e, if_neg e, if_neg e, if_neg e]
      exact a2 g (by omega) hgg
  · rw [t22, if_neg (by omega)]
    exact a3 g (by omega) hgg
  · rw [t4, t5, if_neg (by omega), if_neg (by omega)]
    exact a4 g hg (by omega)
  · rw [t2]
    by_cases e : st s α k ≤ i ∧ i < st s α k + α 5 k
    · rw [if_pos e]
    · rw [if_neg e]
      have e2 : g ≠ k := fun q => e (by rw [← q]; exact ⟨h1, h2⟩)
      exact a5 g (by omega) hgg i h1 h2
  · rw [← a6 r h0 h2 h4 h5 h19 h20 h21 h22]
    funext i
    simp [bgN, upN, clA, h0, h2, h4, h5, h19, h20, h21, h22]
theorem QB_hi {αk : Nat → Nat → Nat} {k : Nat} (hk : k < 3) (hkg : g0 < k) (h : QB s α g0 k αk) : QB s α g0 (k + 1) (upN αk 22 k (αk 5 k)) := by
  obtain ⟨a1, a2, a3, a4, a5, a6⟩ := h
  have t22 : ∀ i, upN αk 22 k (αk 5 k) 22 i = if i = k then αk 5 k else αk 22 i := fun i => up_at
  refine ⟨a1, fun g hg hgg => ?_, fun g hg hgg => ?_, fun g hg hgg => a4 g hg (by omega), fun g hg hgg i h1 h2 => a5 g (by omega) hgg i h1 h2, fun r h0 h2 h4 h5 h19 h20 h21 h22 => ?_⟩
  · have q := a2 g (by omega) hgg
    rw [t22, if_neg (by omega)]
    exact q
  · rw [t22]
    by_cases e : g = k
    · rw [if_pos e, e]
      exact (a4 k hk (by omega)).2
    · rw [if_neg e]
      exact a3 g (by omega) hgg
  · rw [upN_row _ h22]
    exact a6 r h0 h2 h4 h5 h19 h20 h21 h22
theorem M_begins (hn : Gn s b 0 α) (hg0 : g0 < 3) : ∀ m k (αk : Nat → Nat → Nat), k + m = 3 → QB s α g0 k αk → ∃ α', QB s α g0 3 α' ∧ (∀ Q : Int32 → (Nat → Nat → Int32) → Prop, (∃ f, wX5_gather_b145 (nI g0) f 0 (nR α') Q) → wX5_gather_b16 (nI g0) (m + 1) (nI k) (nR αk) Q)
  | 0, k, αk, e, h => by
    have e2 : k = 3 := by omega
    subst e2
    refine ⟨αk, h, fun Q hQ => ?_⟩
    rw [wX5_gather_b16]
    exact ⟨fun _ => hQ, fun q => absurd (show (3 : Int32) ≤ nI 3 by decide) q⟩
  | m + 1, k, αk, e, h => by
    have hk : k < 3 := by omega
    have hs1 := hn.1.2.1
    have e03 : αk 0 3 = s := by rw [h.1.2.2 3 (by omega) (by omega)]; exact hn.1.2.2.2.1
    have hub := U_bd hn hk
    have hsz := sz_lt (g := k) hs1
    have h5 := hn.2.1 k hk
    rw [if_neg (by omega)] at h5
    have h3 : ∀ (w : Prop) (w2 : Prop), (¬ 3 ≤ k → w) → (3 ≤ k → w2) ∧ (¬ 3 ≤ k → w) := fun _ _ x => ⟨fun q => by omega, x⟩
    by_cases hkg : k ≤ g0
    · obtain ⟨α2, i1, i2⟩ := M_begins hn hg0 m (k + 1) _ (by omega) (QB_lo hk hkg h)
      refine ⟨α2, i1, fun Q hQ => ?_⟩
      have hj := i2 Q hQ
      have q4 := h.2.2.2.1 k hk (Or.inl (Nat.le_refl _))
      have est : hb s k (αk 4 k) = st s α k := by rw [q4.1]; rfl
      rw [wX5_gather_b16, show (3 : Int32) = nI 3 from rfl, nI_leI (by omega) (by omega), nI_ltI (by omega) (by omega), nI_clamp (by omega)]
      refine ⟨fun q => absurd q (by omega), fun _ => ⟨fun q => absurd q (by omega), fun _ => ⟨(vp_nI (by omega)).mpr hk, ?_⟩⟩⟩
      have vk : vp_in (nI k) 3 := (vp_nI (by omega)).mpr hk
      rw [nR_at]
      refine M_begin hk (by rw [q4.1]; omega) (by rw [e03]; exact hs1) ⟨vk, ?_⟩
      rw [e03, est]
      rintro S13 rfl
      refine ⟨vk, vk, vk, ?_⟩
      rw [up2_nR, nR_at, nR_at, upN_hit, show upN αk 19 k (st s α k) 5 k = αk 5 k from rfl, q4.2, nI_add, up2_nR]
      rintro S15 rfl
      refine ⟨vk, vk, ?_⟩
      rw [nR_at, show upN (upN αk 19 k (st s α k)) 20 k (st s α k + α 5 k) 5 k = αk 5 k from rfl, q4.2, up2_nR]
      rintro S17 rfl
      refine ⟨vk, vk, ?_⟩
      rw [nR_at, show upN (upN (upN αk 19 k (st s α k)) 20 k (st s α k + α 5 k)) 21 k (α 5 k) 4 k = αk 4 k from rfl, q4.1, show (1 : Int32) = nI 1 from rfl, pk_sub h5.1, up2_nR]
      rintro S19 rfl
      refine ⟨vk, ?_⟩
      rw [← nI_0, up2_nR]
      rintro S21 rfl
      refine ⟨vk, ?_⟩
      rw [nR_at, show upN (upN (upN (upN (upN αk 19 k (st s α k)) 20 k (st s α k + α 5 k)) 21 k (α 5 k)) 4 k (1 - α 4 k)) 5 k 0 19 k = st s α k from upN_hit _ _ _ _]
      refine ⟨α 5 k + 1, ?_⟩
      have hc := M_clr (α := upN (upN (upN (upN (upN αk 19 k (st s α k)) 20 k (st s α k + α 5 k)) 21 k (α 5 k)) 4 k (1 - α 4 k)) 5 k 0) (a1 := nI g0) (k := k) (lo := st s α k) (hi := st s α k + α 5 k) (K16 := fun z0 T => wX5_gather_b16 (nI g0) (m + 1) z0 T Q) (Q := Q) hk (by omega) (by omega) (upN_hit _ _ _ _) (by
        unfold wX5_gather_b125
        refine ⟨vk, vk, ?_⟩
        rintro S31 rfl x33 rfl
        rw [nI_clamp (by omega), nI_1, nR_at, show clA (upN (upN (upN (upN (upN αk 19 k (st s α k)) 20 k (st s α k + α 5 k)) 21 k (α 5 k)) 4 k (1 - α 4 k)) 5 k 0) (st s α k) (st s α k + α 5 k) 5 k = 0 from upN_hit _ _ _ _, up2_nR]
        exact hj) (α 5 k) (st s α k) rfl (Nat.le_refl _)
      rw [cl_0] at hc
      exact hc
    · obtain ⟨α2, i1, i2⟩ := M_begins hn hg0 m (k + 1) _ (by omega) (QB_hi hk (by omega) h)
      refine ⟨α2, i1, fun Q hQ => ?_⟩
      have hj := i2 Q hQ
      rw [wX5_gather_b16, show (3 : Int32) = nI 3 from rfl, nI_leI (by omega) (by omega), nI_ltI (by omega) (by omega)]
      refine ⟨fun q => absurd q (by omega), fun _ => ⟨fun _ => ?_, fun q => absurd (show g0 < k by omega) q⟩⟩
      unfold wX5_gather_b125
      refine ⟨(vp_nI (by omega)).mpr hk, (vp_nI (by omega)).mpr hk, ?_⟩
      rintro S31 rfl x33 rfl
      rw [nI_clamp (by omega), nI_1, nR_at, up2_nR]
      exact hj
theorem cr_S {r k : Nat} : upN (crA α r k) 15 (1000 * r + k) (crA α r k 13 (1000 * r + k)) = crA α r (k + 1) := by
  funext j m
  have e13 : crA α r k 13 (1000 * r + k) = α 13 (1000 * r + k) := rfl
  rw [e13]
  unfold upN crA
  by_cases e : j = 15 ∧ m = 1000 * r + k
  · rw [if_pos e, if_pos (by omega), e.2]
  · rw [if_neg e]
    by_cases e2 : j = 15 ∧ 1000 * r ≤ m ∧ m < 1000 * r + k
    · rw [if_pos e2, if_pos (by omega)]
    · rw [if_neg e2, if_neg (by omega)]
theorem cr_0 {r : Nat} : crA α r 0 = α := by
  funext j m
  exact if_neg (by omega)
theorem M_cr {r N : Nat} {a1 : Int32} (hr : r < 2) (hN : N < 1000) (h14 : α 14 r = N) {K : Int32 → (Nat → Nat → Int32) → Prop} {Q : Int32 → (Nat → Nat → Int32) → Prop} (hq : K (nI (r + 1)) (nR (crA α r N))) : ∀ m k, k + m = N → wX5_gather_b171 a1 K (m + 1) (nI k) (nI r) (nR (crA α r k)) Q
  | 0, k, e => by
    have e14 : crA α r k 14 r = N := h14
    rw [wX5_gather_b171, nI_clamp (by omega), nR_at, e14, nI_leI (by omega) (by omega)]
    refine ⟨(vp_nI (by omega)).mpr hr, fun _ => ?_, fun q => absurd (show N ≤ k by omega) q⟩
    rintro x49 rfl
    rw [nI_1, show k = N by omega]
    exact hq
  | m + 1, k, e => by
    have e14 : crA α r k 14 r = N := h14
    rw [wX5_gather_b171, nI_clamp (show r < 2 ^ 31 by omega), nR_at, e14, nI_leI (by omega) (by omega), show (1000 : Int32) = nI 1000 from rfl, pk_mul, nI_add, nI_clamp (by omega)]
    refine ⟨(vp_nI (by omega)).mpr hr, fun q => absurd q (by omega), fun _ => ⟨(vp_nI (by omega)).mpr (by omega), (vp_nI (by omega)).mpr (by omega), ?_⟩⟩
    rintro S51 rfl x53 rfl
    rw [nI_1, nR_at, up2_nR, cr_S]
    exact M_cr hr hN h14 hq m (k + 1) (by omega)
theorem M_oldr {α : Nat → Nat → Nat} {a1 : Int32} {r f : Nat} (hr : r < 2) (hc : α 12 r < 1000) {Q : Int32 → (Nat → Nat → Int32) → Prop} (hq : wX5_gather_b145 a1 f (nI (r + 1)) (nR (rwA α r)) Q) : wX5_gather_b145 a1 (f + 1) (nI r) (nR α) Q := by
  rw [wX5_gather_b145, show (2 : Int32) = nI 2 from rfl, nI_leI (by omega) (by omega), nI_clamp (show r < 2 ^ 31 by omega)]
  have vr : vp_in (nI r) 2 := (vp_nI (by omega)).mpr hr
  refine ⟨fun q => absurd q (by omega), fun _ => ⟨vr, vr, ?_⟩⟩
  rintro S26 rfl
  refine ⟨vr, ?_⟩
  rw [nR_at, up2_nR]
  rintro S28 rfl
  rw [← nI_0, up2_nR]
  refine ⟨α 12 r + 1, ?_⟩
  have h14 : upN (upN α 14 r (α 12 r)) 12 r 0 14 r = α 12 r := by rw [upN_row _ (by omega), upN_hit]
  have := M_cr (α := upN (upN α 14 r (α 12 r)) 12 r 0) (a1 := a1) (K := fun z0 T => wX5_gather_b145 a1 f z0 T Q) (Q := Q) hr hc h14 hq (α 12 r) 0 (by omega)
  rw [cr_0] at this
  exact this
end PPM
