/-! THE PURE PART: how the class's rows stand to the model's; the class's small methods -/
theorem nI_neg {w : Nat} (h0 : 0 < w) (h : w < 2 ^ 31) : ¬ (0 : Int32) ≤ -(nI w) := by
  intro q
  rw [Int32.le_iff_toInt_le] at q
  have e : (-(nI w)).toInt = -(w : Int) := by
    rw [Int32.toInt_neg, nI_toInt h]
    rw [Int.bmod_def]
    split <;> omega
  rw [e] at q
  have e0 : (0 : Int32).toInt = 0 := rfl
  rw [e0] at q
  omega
theorem nI_neg' {w : Nat} (h0 : 0 < w) (h : w < 2 ^ 31) : -(nI w) < (0 : Int32) := Int32.not_le.mp (nI_neg h0 h)
theorem rrow_in (z : Int32) {r : Nat} (hr : r < 2) : (rrow z r = 12 + r ∧ z = 0) ∨ (rrow z r = 14 + r ∧ ¬ z = 0) := by
  unfold rrow
  by_cases h : z = 0
  · rw [if_pos h]
    exact Or.inl ⟨by omega, h⟩
  · rw [if_neg h]
    exact Or.inr ⟨by omega, h⟩
def RG (s c : Nat) (α : Nat → Nat → Nat) (S : Nat → Nat → Int32) : Prop := ∀ g, g < 3 → S (3 + g) 0 = nI g ∧ S (3 + g) 1 = nI (bs s g) ∧ S (3 + g) 2 = nI (sz s g) ∧ (g < 2 → S (3 + g) 3 = nI (α 3 g)) ∧ S (3 + g) 4 = nI (st s α g) ∧ S (3 + g) 5 = nI (α 5 g) ∧ S (3 + g) 6 = nI (if g < c then α 19 g else 0) ∧ S (3 + g) 7 = nI (if g < c then α 21 g else 0) ∧ S (3 + g) 8 = nI (α 22 g) ∧ S (3 + g) 9 = nI (α 16 g)
def RLs (α : Nat → Nat → Nat) (S : Nat → Nat → Int32) : Prop := (S 6 1 = nI 16 ∧ ∀ i, i < 16 → S 16 i = nI (α 6 i)) ∧ (S 7 1 = nI (α 0 9) ∧ ∀ i, i < α 0 9 → S 17 i = nI (α 7 i)) ∧ (S 8 1 = nI 8 ∧ ∀ i, i < 8 → S 18 i = nI (α 8 i)) ∧ (S 9 1 = nI (α 0 12) ∧ ∀ i, i < α 0 12 → S 19 i = nI (α 9 i)) ∧ (S 10 1 = nI (α 0 14) ∧ ∀ i, i < α 0 14 → S 20 i = nI (α 10 i)) ∧ (S 11 1 = nI (α 0 16) ∧ ∀ i, i < α 0 16 → S 21 i = nI (α 11 i))
def RR (α : Nat → Nat → Nat) (S : Nat → Nat → Int32) : Prop := ∀ r, r < 2 → S (rrow (S 1 8) r) 1 = nI (α 12 r) ∧ ∀ i, i < α 12 r → S (rrow (S 1 8) r + 10) i = nI (α 13 (1000 * r + i))
def RW (s c : Nat) (α : Nat → Nat → Nat) (z : Nat → Nat) (S : Nat → Nat → Int32) : Prop := (∀ a, OF s c α z a → α 2 a ≠ 0 → S 26 a = -(nI (α 2 a))) ∧ (∀ a, inU s α a ∨ inF s c α a → ¬ (OF s c α z a ∧ α 2 a ≠ 0) → S 26 a = nI (α 1 a))
def RC (c : Nat) (α : Nat → Nat → Nat) (S : Nat → Nat → Int32) : Prop := S 1 10 = nI (α 0 23) ∧ S 1 12 = nI (α 0 25) ∧ S 1 11 = nI (α 0 24 + if c = 0 then 0 else α 0 32) ∧ (S 1 9 = 0 ↔ ¬ S 1 8 = 0)
def RM (α : Nat → Nat → Nat) (S : Nat → Nat → Int32) : Prop := S 2 3 = nI (α 0 29) ∧ S 2 4 = nI (α 0 27) ∧ S 2 5 = nI (α 0 26) ∧ (∀ i, i < 256 → S 27 i = nI (α 18 i)) ∧ ∀ i, i < 8 → S 28 i = nI (α 17 i)
def RS (s c : Nat) (α : Nat → Nat → Nat) (z : Nat → Nat) (S : Nat → Nat → Int32) : Prop := RG s c α S ∧ RLs α S ∧ RR α S ∧ RW s c α z S ∧ RC c α S ∧ RM α S
section PR
variable {s b c : Nat} {α : Nat → Nat → Nat} {z : Nat → Nat} {S : Nat → Nat → Int32} {n : Nat → Nat}
theorem C_home {a : Nat} (hs : s ≤ 128) (ha : a < 2 ^ 31) (hr : RG s c α S) {Q : Nat → (Nat → Nat → Int32) → Prop} (hq : Q (aG s a) S) : wX1_homeOf n (nI a) S Q := by
  have h2 := (hr 2 (by omega)).2.1
  have h1 := (hr 1 (by omega)).2.1
  refine ⟨3, ?_⟩
  unfold aG at hq
  rw [wX1_homeOf_b2]
  refine ⟨fun q => absurd q (by decide), fun _ => ⟨(vp_nI (i := 2) (by omega)).mpr (by omega), fun q => ?_, fun q => ⟨(vp_nI (i := 2) (by omega)).mpr (by omega), ?_⟩⟩⟩
  · rw [show S (3 + (2 : Int32).toNatClampNeg) 1 = nI (bs s 2) from h2, nI_ltI ha (by simp only [bs]; omega)] at q
    simp only [bs] at q
    rintro x6 rfl
    rw [wX1_homeOf_b2]
    rw [show (2 : Int32) + (-1) = nI 1 from rfl]
    refine ⟨fun q => absurd q (by decide), fun _ => ⟨(vp_nI (i := 1) (by omega)).mpr (by omega), fun q2 => ?_, fun q2 => ⟨(vp_nI (i := 1) (by omega)).mpr (by omega), ?_⟩⟩⟩
    · rw [show S (3 + (nI 1).toNatClampNeg) 1 = nI (bs s 1) from h1, nI_ltI ha (by simp only [bs]; omega)] at q2
      simp only [bs] at q2
      rintro x6 rfl
      rw [wX1_homeOf_b2]
      rw [show nI 1 + (-1) = nI 0 from rfl]
      refine ⟨fun _ => ?_, fun q => absurd (by decide) q⟩
      rw [if_neg (by omega), if_neg (by omega)] at hq
      exact hq
    · rw [show S (3 + (nI 1).toNatClampNeg) 1 = nI (bs s 1) from h1, nI_ltI ha (by simp only [bs]; omega)] at q2
      simp only [bs] at q2
      rw [if_neg (by omega), if_pos (by omega)] at hq
      exact hq
  · rw [show S (3 + (2 : Int32).toNatClampNeg) 1 = nI (bs s 2) from h2, nI_ltI ha (by simp only [bs]; omega)] at q
    simp only [bs] at q
    rw [if_pos (by omega)] at hq
    exact hq
theorem C_from_t {a : Nat} (hn : Gn s b c α) (hr : RG s c α S) (h : inF s c α a) {Q : Bool → (Nat → Nat → Int32) → Prop} (hq : Q true S) : wX0_isInFrom n (aG s a) (nI a) S Q := by
  have hl := F_lt hn h
  have hs := hn.1.2.1
  have hg := aG_lt s a
  have hz := sz_lt (g := aG s a) hs
  obtain ⟨-, -, r2, -, -, -, r6, -⟩ := hr _ hg
  have hf := hn.2.2 _ h.1
  have h2 := h.2
  have h4 := hb_in (s := s) (h := 1 - α 4 (aG s a)) hg
  have h6 := bs_mono (s := s) (g := 0) (k := aG s a) (by omega)
  have h7 : bs s 0 = 1 := rfl
  rw [if_pos h.1] at r6
  unfold wX0_isInFrom
  rw [r6, r2, nI_add, nI_ltI (by omega) (by omega), nI_leI (by omega) (by omega), ← nI_0, nI_eq (by omega) (by omega)]
  exact ⟨fun q => by omega, fun _ => ⟨fun q => by omega, fun _ => ⟨fun q => by omega, fun _ => hq⟩⟩⟩
theorem C_from_f {a : Nat} (hn : Gn s b c α) (hr : RG s c α S) (h : a = 0 ∨ inU s α a) {Q : Bool → (Nat → Nat → Int32) → Prop} (hq : Q false S) : wX0_isInFrom n (aG s a) (nI a) S Q := by
  have hs := hn.1.2.1
  have hg := aG_lt s a
  have hz := sz_lt (g := aG s a) hs
  have hc := hn.1.2.2.1
  obtain ⟨-, -, r2, -, -, -, r6, -⟩ := hr _ hg
  have h5 := hn.2.1 _ hg
  have hlt : a < 1 + 14 * s := h.elim (fun q => by omega) (fun q => (U_lt hn q).2)
  unfold wX0_isInFrom
  by_cases e : aG s a < c
  · have hf := hn.2.2 _ e
    have hfb := F_bd hn e
    have h4 := hb_in (s := s) (h := 1 - α 4 (aG s a)) hg
    have h6 := bs_mono (s := s) (g := 0) (k := aG s a) (by omega)
    have h7 : bs s 0 = 1 := rfl
    rw [if_pos e] at r6
    rw [r6, r2, nI_add, nI_ltI (by omega) (by omega), nI_leI (by omega) (by omega)]
    refine ⟨fun _ => hq, fun _ => ⟨fun _ => hq, fun q1 => ⟨fun _ => hq, fun q2 => ?_⟩⟩⟩
    exfalso
    rcases h with h | h
    · omega
    · unfold inU st at h
      generalize aG s a = g at *
      have hy : 0 ≤ (if g < c then α 21 g else 0) := Nat.zero_le _
      rw [if_pos e] at h5
      rw [hf.1] at q1 q2
      rcases (show α 4 g = 0 ∨ α 4 g = 1 by omega) with q | q <;> rw [q] at h q1 q2 <;> simp [hb] at h q1 q2 <;> omega
  · rw [if_neg e] at r6
    refine ⟨fun _ => hq, fun q => absurd r6 q⟩
theorem C_fits {g A B D x : Nat} (h2 : S (3 + g) 2 = nI A) (h5 : S (3 + g) 5 = nI B) (h7 : S (3 + g) 7 = nI D) (hA : A < 2 ^ 20) (hB : B < 2 ^ 20) (hD : D < 2 ^ 20) (hx : x < 2 ^ 20) {Q : Bool → (Nat → Nat → Int32) → Prop} (ht : B + x + D ≤ A → Q true S) (hf : ¬ B + x + D ≤ A → Q false S) : wX0_fits n g (nI x) S Q := by
  unfold wX0_fits
  rw [h2, h5, h7, nI_add, nI_add, nI_ltI (by omega) (by omega)]
  exact ⟨fun q => hf (by omega), fun q => ht (by omega)⟩
theorem C_fieldsOf {a w : Nat} (hn : a < n 26) (ha : a < 2 ^ 31) (hw : S 26 a = nI w) (h : w < 2 ^ 31) {Q : Int32 → (Nat → Nat → Int32) → Prop} (hq : Q (nI (w % 8)) S) : wX1_fieldsOf n (nI a) S Q := by
  unfold wX1_fieldsOf
  rw [nI_clamp ha, hw, nI_and7 (by omega)]
  exact ⟨(vp_nI ha).mpr hn, hq⟩
theorem C_ageOf {a w : Nat} (hn : a < n 26) (ha : a < 2 ^ 31) (hw : S 26 a = nI w) (h : w < 2 ^ 31) {Q : Int32 → (Nat → Nat → Int32) → Prop} (hq : Q (nI (w / 8 % 8)) S) : wX1_ageOf n (nI a) S Q := by
  unfold wX1_ageOf
  rw [nI_clamp ha, hw, nI_shr3 h, nI_and7 (by omega)]
  exact ⟨(vp_nI ha).mpr hn, hq⟩
end PR
