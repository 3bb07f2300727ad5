/-! THE PURE PART: numbers, rows of naturals, generations -/
theorem lit32 (n : Nat) : (OfNat.ofNat n : Int32) = nI n := rfl
theorem vp_nI {i N : Nat} (h : i < 2 ^ 31) : vp_in (nI i) N ↔ i < N := by
  unfold vp_in
  rw [nI_clamp h]
  have := nI_pos h
  constructor
  · intro q
    exact Nat.not_le.mp fun z => q (Or.inr z)
  · intro q z
    rcases z with z | z
    · exact this z
    · omega
def nR (a : Nat → Nat → Nat) : Nat → Nat → Int32 := fun k i => nI (a k i)
def upN (a : Nat → Nat → Nat) (k i x : Nat) : Nat → Nat → Nat := fun j m => if j = k ∧ m = i then x else a j m
theorem nR_at (a : Nat → Nat → Nat) (k i : Nat) : nR a k i = nI (a k i) := rfl
theorem up2_get (S : Nat → Nat → Int32) (k f : Nat) (x : Int32) (j i : Nat) : up2 S k f x j i = if j = k ∧ i = f then x else S j i := by
  unfold up2 upd
  by_cases h : j = k
  · subst h
    by_cases h2 : i = f
    · simp [h2]
    · simp [h2]
  · simp [h]
theorem upR_get (S : Nat → Nat → Int32) (k : Nat) (f : Nat → Int32) (j i : Nat) : upR S k f j i = if j = k then f i else S j i := by
  unfold upR
  by_cases h : j = k
  · simp [h]
  · simp [h]
theorem upN_get (a : Nat → Nat → Nat) (k f x j i : Nat) : upN a k f x j i = if j = k ∧ i = f then x else a j i := rfl
theorem up2_nR (a : Nat → Nat → Nat) (k i x : Nat) : up2 (nR a) k i (nI x) = nR (upN a k i x) := by
  funext j m
  show up2 (nR a) k i (nI x) j m = nI (upN a k i x j m)
  rw [up2_get, upN_get]
  split <;> rfl
theorem up2_row (S : Nat → Nat → Int32) {k f j : Nat} {x : Int32} (h : j ≠ k) : up2 S k f x j = S j := if_neg h
theorem up2_hit (S : Nat → Nat → Int32) (k f : Nat) (x : Int32) : up2 S k f x k f = x := by rw [up2_get, if_pos ⟨rfl, rfl⟩]
theorem up2_mis (S : Nat → Nat → Int32) {k f i : Nat} (x : Int32) (h : i ≠ f) : up2 S k f x k i = S k i := by rw [up2_get, if_neg (fun z => h z.2)]
theorem upN_hit (a : Nat → Nat → Nat) (k f x : Nat) : upN a k f x k f = x := if_pos ⟨rfl, rfl⟩
theorem upN_ne (a : Nat → Nat → Nat) {k f x j i : Nat} (h : j ≠ k ∨ i ≠ f) : upN a k f x j i = a j i := if_neg (fun z => h.elim (fun q => q z.1) (fun q => q z.2))
theorem upN_row (a : Nat → Nat → Nat) {k f x j : Nat} (h : j ≠ k) : upN a k f x j = a j := funext fun i => upN_ne a (Or.inl h)
/-- every row of numbers is a row of naturals -/
theorem nR_of (S : Nat → Nat → Int32) : S = nR (fun k i => (S k i).toBitVec.toNat) := by
  funext k i
  show S k i = Int32.ofNat _
  apply Int32.toBitVec_inj.mp
  apply BitVec.eq_of_toNat_eq
  simp
-- generations: where they lie
def bs (s : Nat) : Nat → Nat | 0 => 1 | 1 => 1 + 2 * s | 2 => 1 + 6 * s | _ => 1 + 14 * s
def sz (s : Nat) : Nat → Nat | 0 => s | 1 => 2 * s | _ => 4 * s
def aG (s a : Nat) : Nat := if 6 * s < a then 2 else if 2 * s < a then 1 else 0
/-- the beginning of half h of generation g -/
def hb (s g h : Nat) : Nat := bs s g + (if h = 0 then 0 else sz s g)
theorem aG_lt (s a : Nat) : aG s a < 3 := by unfold aG; split <;> (try split) <;> omega
theorem aG_of {s g a : Nat} (hg : g < 3) (h1 : bs s g ≤ a) (h2 : a < bs s (g + 1)) : aG s a = g := by
  match g, hg with
  | 0, _ => simp only [bs] at h1 h2; unfold aG; rw [if_neg (by omega), if_neg (by omega)]
  | 1, _ => simp only [bs] at h1 h2; unfold aG; rw [if_neg (by omega), if_pos (by omega)]
  | 2, _ => simp only [bs] at h1 h2; unfold aG; rw [if_pos (by omega)]
  | g + 3, h => omega
theorem bs_next {s g : Nat} (hg : g < 3) : bs s (g + 1) = bs s g + 2 * sz s g := by
  match g, hg with
  | 0, _ => simp only [bs, sz]
  | 1, _ => simp only [bs, sz]; omega
  | 2, _ => simp only [bs, sz]; omega
  | g + 3, h => omega
theorem hb_in {s g h : Nat} (hg : g < 3) : bs s g ≤ hb s g h ∧ hb s g h + sz s g ≤ bs s (g + 1) := by
  rw [bs_next hg]
  unfold hb
  split <;> omega
theorem bs_mono {s g k : Nat} (h : g ≤ k) : bs s g ≤ bs s k := by
  match g, k with
  | 0, 0 => simp
  | 0, 1 => simp only [bs]; omega
  | 0, 2 => simp only [bs]; omega
  | 0, k + 3 => simp only [bs]; omega
  | 1, 1 => simp
  | 1, 2 => simp only [bs]; omega
  | 1, k + 3 => simp only [bs]; omega
  | 2, 2 => simp
  | 2, k + 3 => simp only [bs]; omega
  | g + 3, k + 3 => simp [bs]
  | g + 1, 0 => omega
  | g + 2, 1 => omega
  | g + 3, 2 => omega
theorem bs_top {s g : Nat} (hg : g < 3) : bs s (g + 1) ≤ 1 + 14 * s := by
  have := bs_mono (s := s) (show g + 1 ≤ 3 by omega)
  simpa [bs] using this
theorem sz_le {s g : Nat} : sz s g ≤ 4 * s := by
  match g with
  | 0 => simp only [sz]; omega
  | 1 => simp only [sz]; omega
  | g + 2 => simp [sz]
-- the model's small methods
section PM
variable {a : Nat → Nat → Nat}
theorem M_gen {x : Nat} (hx : x < 2 ^ 20) (hs : a 0 3 ≤ 128) {Q : Int32 → (Nat → Nat → Int32) → Prop} (h : Q (nI (aG (a 0 3) x)) (nR a)) : wX5_generation (nI x) (nR a) Q := by
  unfold wX5_generation
  unfold aG at h
  simp (disch := omega) only [nR_at, lit32, pk_mul, nI_ltI]
  refine ⟨fun c1 => ⟨fun c2 => ?_, fun c2 => ?_⟩, fun c1 => ?_⟩
  · rwa [if_pos (by omega)] at h
  · rwa [if_neg (by omega), if_pos (by omega)] at h
  · rwa [if_neg (by omega), if_neg (by omega)] at h
theorem M_size {g : Nat} (hg : g < 3) {Q : Int32 → (Nat → Nat → Int32) → Prop} (hs : a 0 3 ≤ 128) (h : Q (nI (sz (a 0 3) g)) (nR a)) : wX5_size (nI g) (nR a) Q := by
  unfold wX5_size
  match g, hg with
  | 0, _ => rw [nR_at, pk_shlN _ 0 (by decide) (by omega)]; simpa [sz] using h
  | 1, _ => rw [nR_at, pk_shlN _ 1 (by decide) (by omega)]; rw [show a 0 3 * 2 ^ 1 = sz (a 0 3) 1 by simp only [sz]; omega]; exact h
  | 2, _ => rw [nR_at, pk_shlN _ 2 (by decide) (by omega)]; rw [show a 0 3 * 2 ^ 2 = sz (a 0 3) 2 by simp only [sz]; omega]; exact h
  | g + 3, h => omega
theorem M_begin {g h : Nat} (hg : g < 3) (hh : h ≤ 1) {Q : Int32 → (Nat → Nat → Int32) → Prop} (hs : a 0 3 ≤ 128) (hq : Q (nI (hb (a 0 3) g h)) (nR a)) : wX5_begin (nI g) (nI h) (nR a) Q := by
  unfold wX5_begin wX5_begin_b24
  have key : hb (a 0 3) g h = 1 + a 0 3 * (if g = 0 then 0 else if g = 1 then 2 else 6) + h * sz (a 0 3) g := by
    unfold hb
    match g, hg, h, hh with
    | 0, _, 0, _ => simp [bs]
    | 1, _, 0, _ => simp only [bs, sz]; simp; omega
    | 2, _, 0, _ => simp only [bs, sz]; simp; omega
    | 0, _, 1, _ => simp [bs, sz]
    | 1, _, 1, _ => simp only [bs, sz]; simp; omega
    | 2, _, 1, _ => simp only [bs, sz]; simp; omega
    | g + 3, hg, _, _ => omega
    | _, _, h + 2, hh => omega
  rw [key] at hq
  have e0 : ((nI g : Int32) = 0) ↔ g = 0 := nI_eq (by omega) (by decide)
  have e1 : ((nI g : Int32) = 1) ↔ g = 1 := nI_eq (by omega) (by decide)
  refine ⟨fun c => ?_, fun c => ⟨fun c2 => ?_, fun c2 => ?_⟩⟩
  · rw [if_pos (e0.mp c)] at hq
    refine M_size hg hs ?_
    simp only [nR_at, lit32, pk_mul, nI_add]
    exact hq
  · rw [if_neg (fun z => c (e0.mpr z)), if_pos (e1.mp c2)] at hq
    refine M_size hg hs ?_
    simp only [nR_at, lit32, pk_mul, nI_add]
    exact hq
  · rw [if_neg (fun z => c (e0.mpr z)), if_neg (fun z => c2 (e1.mpr z))] at hq
    refine M_size hg hs ?_
    simp only [nR_at, lit32, pk_mul, nI_add]
    exact hq
theorem nI_and7 {x : Nat} (h : x < 2 ^ 32) : (nI x &&& 7 : Int32) = nI (x % 8) := pk_andN h 3 (by decide)
theorem nI_shr3 {x : Nat} (h : x < 2 ^ 31) : (nI x >>> ((3 : Int32) &&& 31)) = nI (x / 8) := pk_shrN h _ 3 (by decide)
theorem M_fields {o : Nat} (ho : o < 1793) (hw : a 1 o < 2 ^ 31) {Q : Int32 → (Nat → Nat → Int32) → Prop} (h : Q (nI (a 1 o % 8)) (nR a)) : wX5_fields (nI o) (nR a) Q := by
  unfold wX5_fields
  rw [nI_clamp (by omega), nR_at, nI_and7 (by omega)]
  exact ⟨(vp_nI (by omega)).mpr ho, h⟩
theorem M_age {o : Nat} (ho : o < 1793) (hw : a 1 o < 2 ^ 31) {Q : Int32 → (Nat → Nat → Int32) → Prop} (h : Q (nI (a 1 o / 8 % 8)) (nR a)) : wX5_age (nI o) (nR a) Q := by
  unfold wX5_age
  rw [nI_clamp (by omega), nR_at, nI_shr3 hw, nI_and7 (by omega)]
  exact ⟨(vp_nI (by omega)).mpr ho, h⟩
end PM
