/-! THE PURE PART: both remember a field -/
def LN (n : Nat → Nat) (s b : Nat) : Prop := n 16 = 16 ∧ n 17 = 40 ∧ n 18 = 8 ∧ n 19 = 7 * s / 2 ∧ n 20 = 7 * s / 2 ∧ n 21 = b ∧ n 22 = 6 * s ∧ n 23 = 4 * s ∧ n 24 = 6 * s ∧ n 25 = 4 * s ∧ n 26 = 1 + 14 * s ∧ n 27 = 256 ∧ n 28 = 8
/-- what remembering leaves as it was -/
def FRR (α : Nat → Nat → Nat) (S : Nat → Nat → Int32) (α' : Nat → Nat → Nat) (S' : Nat → Nat → Int32) : Prop :=
  (∀ k, k ≠ 12 → k ≠ 13 → α' k = α k) ∧ (∀ k, k < 12 ∨ (16 ≤ k ∧ k < 22) ∨ 26 ≤ k → S' k = S k) ∧ (∀ r, r < 2 → S' (rrow (S 1 9) r) = S (rrow (S 1 9) r) ∧ S' (rrow (S 1 9) r + 10) = S (rrow (S 1 9) r + 10))
def rmA (α : Nat → Nat → Nat) (r f : Nat) : Nat → Nat → Nat := upN (upN α 13 (1000 * r + α 12 r) f) 12 r (α 12 r + 1)
def rmS (S : Nat → Nat → Int32) (R cnt : Nat) (f : Int32) : Nat → Nat → Int32 := up2 (up2 S (R + 10) cnt f) R 1 (nI (cnt + 1))
section PRM
variable {s b c : Nat} {α : Nat → Nat → Nat} {z : Nat → Nat} {S : Nat → Nat → Int32} {n : Nat → Nat}
theorem row_cap (hn : Gn s b c α) {r m : Nat} (hr : r < 2) (L : Nat → Nat) (h1 : ∀ i, i < m → inU s α (L i) ∧ r < aG s (L i)) (h2 : ∀ i j, i < j → j < m → L i ≠ L j) : m ≤ (if r = 0 then 6 * s else 4 * s) := by
  refine fb_holes _ m (fun i => if aG s (L i) = 1 then L i - st s α 1 else (L i - st s α 2) + (if r = 0 then 2 * s else 0)) (fun i hi => ?_) (fun i j hij hj => ?_)
  · obtain ⟨⟨q1, q2⟩, q3⟩ := h1 i hi
    have hg := aG_lt s (L i)
    have h3 := hn.2.1 _ hg
    by_cases e : aG s (L i) = 1
    · simp only [if_pos e]
      rw [e] at q1 q2 q3 h3
      rw [if_pos (by omega)]
      have : sz s 1 = 2 * s := rfl
      omega
    · have e2 : aG s (L i) = 2 := by omega
      simp only [if_neg e]
      rw [e2] at q1 q2 q3 h3
      have : sz s 2 = 4 * s := rfl
      by_cases e3 : r = 0
      · rw [if_pos e3, if_pos e3]
        omega
      · rw [if_neg e3, if_neg e3]
        omega
  · obtain ⟨⟨q1, q2⟩, q3⟩ := h1 i (by omega)
    obtain ⟨⟨p1, p2⟩, p3⟩ := h1 j hj
    have hne := h2 i j hij hj
    have hg := aG_lt s (L i)
    have hg2 := aG_lt s (L j)
    have h31 := (hn.2.1 1 (by omega)).2.1
    have s1 : sz s 1 = 2 * s := rfl
    by_cases e : aG s (L i) = 1
    · simp only [if_pos e]
      rw [e] at q1 q2
      by_cases e4 : aG s (L j) = 1
      · simp only [if_pos e4]
        rw [e4] at p1 p2
        omega
      · simp only [if_neg e4]
        rw [if_pos (show r = 0 by omega)]
        omega
    · have e2 : aG s (L i) = 2 := by omega
      simp only [if_neg e]
      rw [e2] at q1 q2
      by_cases e4 : aG s (L j) = 1
      · simp only [if_pos e4]
        rw [e4] at p1 p2
        rw [if_pos (show r = 0 by omega)]
        omega
      · simp only [if_neg e4]
        have e5 : aG s (L j) = 2 := by omega
        rw [e5] at p1 p2
        omega
theorem row_le (hn : Gn s b c α) (hz : Gz s c α z) (hr : Gr s α z) {r : Nat} (h : r < 2) : α 12 r ≤ (if r = 0 then 6 * s else 4 * s) :=
  row_cap hn h (fun i => α 13 (1000 * r + i)) (fun i hi => ⟨(FU_in hn hz (hr r h i hi).1).1, (hr r h i hi).2.1⟩) (fun i j hij hj => (hr r h j hj).2.2 i hij)
theorem row_more (hn : Gn s b c α) (hz : Gz s c α z) (hr : Gr s α z) {r f : Nat} (h : r < 2) (hf : FU s α z f) (hg : r < aG s f) (hno : ∀ i, i < α 12 r → α 13 (1000 * r + i) ≠ f) : α 12 r + 1 ≤ (if r = 0 then 6 * s else 4 * s) := by
  refine row_cap hn h (fun i => if i = α 12 r then f else α 13 (1000 * r + i)) (fun i hi => ?_) (fun i j hij hj => ?_)
  · by_cases e : i = α 12 r
    · simp only [if_pos e]
      exact ⟨(FU_in hn hz hf).1, hg⟩
    · simp only [if_neg e]
      exact ⟨(FU_in hn hz (hr r h i (by omega)).1).1, (hr r h i (by omega)).2.1⟩
  · simp only [if_neg (show ¬ i = α 12 r by omega)]
    by_cases e : j = α 12 r
    · simp only [if_pos e]
      exact hno i (by omega)
    · simp only [if_neg e]
      exact (hr r h j (by omega)).2.2 i hij
theorem M_rem {r f : Nat} (hr : r < 2) (hc : α 12 r < 1000) (hf : f < 2 ^ 31) (hb : ∀ i, i < α 12 r → α 13 (1000 * r + i) < 2 ^ 31) {Q : Unit → (Nat → Nat → Int32) → Prop} (q1 : (∃ i, i < α 12 r ∧ α 13 (1000 * r + i) = f) → Q () (nR α)) (q2 : (∀ i, i < α 12 r → α 13 (1000 * r + i) ≠ f) → Q () (nR (rmA α r f))) : ∀ m k, k + m = α 12 r → (∀ i, i < k → α 13 (1000 * r + i) ≠ f) → wX5_remember_b2 (nI r) (nI f) (m + 1) (nI k) (nR α) Q
  | 0, k, e, hk => by
    rw [wX5_remember_b2, nI_clamp (show r < 2 ^ 31 by omega), nR_at, show (1000 : Int32) = nI 1000 from rfl, pk_mul, nI_add, nI_add, nI_clamp (by omega), nI_leI (by omega) (by omega)]
    refine ⟨(vp_nI (by omega)).mpr hr, fun _ => ⟨(vp_nI (by omega)).mpr hr, (vp_nI (by omega)).mpr (by omega), ?_⟩, fun q => absurd (show α 12 r ≤ k by omega) q⟩
    rintro S3 rfl
    refine ⟨(vp_nI (by omega)).mpr hr, (vp_nI (by omega)).mpr hr, ?_⟩
    rintro S5 rfl
    rw [up2_nR]
    rw [show nR (upN α 13 (1000 * r + α 12 r) f) 12 r = nI (α 12 r) from rfl, nI_1, up2_nR]
    exact q2 (fun i hi => hk i (by omega))
  | m + 1, k, e, hk => by
    rw [wX5_remember_b2, nI_clamp (show r < 2 ^ 31 by omega), nR_at, show (1000 : Int32) = nI 1000 from rfl, pk_mul, nI_add, nI_add, nI_clamp (show 1000 * r + k < 2 ^ 31 by omega), nI_leI (by omega) (by omega), nR_at, nI_eq (hb k (by omega)) hf]
    refine ⟨(vp_nI (by omega)).mpr hr, fun q => absurd q (by omega), fun _ => ⟨(vp_nI (by omega)).mpr (by omega), fun q => q1 ⟨k, by omega, q⟩, fun q => ?_⟩⟩
    rintro x8 rfl
    rw [nI_1]
    exact M_rem hr hc hf hb q1 q2 m (k + 1) (by omega) (fun i hi => by
      by_cases e2 : i = k
      · rw [e2]; exact q
      · exact hk i (by omega))
theorem C_has {R f cnt : Nat} {ent : Nat → Nat} (h1 : S R 1 = nI cnt) (h2 : ∀ i, i < cnt → S (R + 10) i = nI (ent i)) (hb : ∀ i, i < cnt → ent i < 2 ^ 31) (hN : cnt ≤ n (R + 10)) (hc : cnt < 1000) (hf : f < 2 ^ 31) {Q : Bool → (Nat → Nat → Int32) → Prop} (q1 : (∃ i, i < cnt ∧ ent i = f) → Q true S) (q2 : (∀ i, i < cnt → ent i ≠ f) → Q false S) : ∀ m k, k + m = cnt → (∀ i, i < k → ent i ≠ f) → wX3_has_b2 n R (nI f) (m + 1) (nI k) S Q
  | 0, k, e, hk => by
    rw [wX3_has_b2, h1, nI_leI (by omega) (by omega)]
    exact ⟨fun _ => q2 (fun i hi => hk i (by omega)), fun q => absurd (show cnt ≤ k by omega) q⟩
  | m + 1, k, e, hk => by
    rw [wX3_has_b2, h1, nI_leI (by omega) (by omega), nI_clamp (show k < 2 ^ 31 by omega), h2 k (by omega), nI_eq (hb k (by omega)) hf]
    refine ⟨fun q => absurd q (by omega), fun _ => ⟨(vp_nI (by omega)).mpr (by omega), fun q => q1 ⟨k, by omega, q⟩, fun q => ?_⟩⟩
    rintro x4 rfl
    rw [nI_1]
    exact C_has h1 h2 hb hN hc hf q1 q2 m (k + 1) (by omega) (fun i hi => by
      by_cases e2 : i = k
      · rw [e2]; exact q
      · exact hk i (by omega))
theorem C_add {R cnt : Nat} {x : Int32} (h1 : S R 1 = nI cnt) (hN : cnt < n (R + 10)) (hN2 : n (R + 10) < 2 ^ 20) {Q : Unit → (Nat → Nat → Int32) → Prop} (hq : Q () (rmS S R cnt x)) : wX3_add n R x S Q := by
  unfold wX3_add
  rw [h1, nI_leI (by omega) (by omega), nI_clamp (by omega)]
  refine ⟨fun q => absurd q (by omega), fun _ => ⟨(vp_nI (by omega)).mpr hN, ?_⟩⟩
  rintro S2 rfl S4 rfl
  rw [up2_row S (show R ≠ R + 10 by omega), h1, nI_1]
  exact hq
end PRM
