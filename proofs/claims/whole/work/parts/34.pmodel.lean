/-! THE PURE PART: the model's methods of a collection -/
theorem and64 : ∀ w : Nat, w < 128 → (nI w &&& 64 : Int32) = nI (w / 64 * 64) := by decide +kernel
theorem and63 : ∀ w : Nat, w < 128 → (nI w &&& 63 : Int32) = nI (w % 64) := by decide +kernel
theorem andM65 : ∀ w : Nat, w < 128 → (nI w &&& (-65 : Int32)) = nI (w % 64) := by decide +kernel
theorem ageHd : ∀ w : Nat, w < 128 → ∀ A : Nat, A < 8 → ((nI w &&& (-57 : Int32)) ||| (nI A <<< ((3 : Int32) &&& 31))) = nI (w % 8 + 8 * A + w / 64 * 64) := by decide +kernel
theorem sz_lt {s g : Nat} (hs : s ≤ 128) : sz s g ≤ 512 := by
  have := sz_le (s := s) (g := g)
  omega
section PM2
variable {s b c : Nat} {α : Nat → Nat → Nat} {z : Nat → Nat}
theorem M_gen' {x : Nat} (hn : Gn s b c α) (hx : x < 2 ^ 20) {Q : Int32 → (Nat → Nat → Int32) → Prop} (h : Q (nI (aG s x)) (nR α)) : wX5_generation (nI x) (nR α) Q := by
  have e := hn.1.2.2.2.1
  refine M_gen hx (by rw [e]; exact hn.1.2.1) ?_
  rw [e]
  exact h
theorem M_size' {g : Nat} (hn : Gn s b c α) (hg : g < 3) {Q : Int32 → (Nat → Nat → Int32) → Prop} (h : Q (nI (sz s g)) (nR α)) : wX5_size (nI g) (nR α) Q := by
  have e := hn.1.2.2.2.1
  refine M_size hg (by rw [e]; exact hn.1.2.1) ?_
  rw [e]
  exact h
theorem M_begin' {g h : Nat} (hn : Gn s b c α) (hg : g < 3) (hh : h ≤ 1) {Q : Int32 → (Nat → Nat → Int32) → Prop} (hq : Q (nI (hb s g h)) (nR α)) : wX5_begin (nI g) (nI h) (nR α) Q := by
  have e := hn.1.2.2.2.1
  refine M_begin hg hh (by rw [e]; exact hn.1.2.1) ?_
  rw [e]
  exact hq
theorem F_bd (hn : Gn s b c α) {g : Nat} (hg : g < c) : α 19 g < 1793 ∧ α 20 g ≤ 1793 := by
  have h1 := hn.2.2 g hg
  have hc := hn.1.2.2.1
  have h2 := hn.1.2.1
  have h4 := hb_in (s := s) (g := g) (h := 1 - α 4 g) (by omega)
  have h5 := bs_top (s := s) (g := g) (by omega)
  have h6 : 0 < sz s g := by
    have := hn.1.1
    match g with
    | 0 => simp only [sz]; omega
    | 1 => simp only [sz]; omega
    | g + 2 => simp only [sz]; omega
  omega
theorem U_bd (hn : Gn s b c α) {g : Nat} (hg : g < 3) : st s α g + sz s g ≤ 1793 ∧ 1 ≤ st s α g := by
  have h2 := hn.1.2.1
  have h4 := hb_in (s := s) (g := g) (h := α 4 g) hg
  have h5 := bs_top (s := s) (g := g) hg
  have h6 := bs_mono (s := s) (g := 0) (k := g) (by omega)
  have h7 : bs s 0 = 1 := rfl
  unfold st
  omega
theorem M_from_t {a : Nat} (hn : Gn s b c α) (h : inF s c α a) {Q : Bool → (Nat → Nat → Int32) → Prop} (hq : Q true (nR α)) : wX5_isFrom (nI a) (nR α) Q := by
  have hl := F_lt hn h
  have hs := hn.1.2.1
  have hg := aG_lt s a
  have hb := F_bd hn h.1
  unfold wX5_isFrom
  refine M_gen' hn (by omega) ?_
  refine ⟨fun q => ?_, fun _ => ?_⟩
  · rw [← nI_0, nI_eq (by omega) (by omega)] at q
    omega
  · have e : α 0 31 + 1 = c := by
      rcases hn.1.2.2.2.2.2.2.2.2.2 with q | q
      · have := h.1; omega
      · exact q
    have h1 := h.1
    have h2 := h.2
    have hc := hn.1.2.2.1
    simp only [nR_at, nI_clamp (show aG s a < 2 ^ 31 by omega)]
    refine ⟨fun q => ?_, fun _ => ⟨(vp_nI (by omega)).mpr hg, fun q => ?_, fun _ => ⟨(vp_nI (by omega)).mpr hg, fun q => ?_, fun _ => hq⟩⟩⟩
    · rw [nI_ltI (by omega) (by omega)] at q
      omega
    · rw [nI_ltI (by omega) (by omega)] at q
      omega
    · rw [nI_leI (by omega) (by omega)] at q
      omega
theorem M_from_f {a : Nat} (hn : Gn s b c α) (hc0 : 0 < c) (ha : a < 1793) (h : ¬ inF s c α a) {Q : Bool → (Nat → Nat → Int32) → Prop} (hq : Q false (nR α)) : wX5_isFrom (nI a) (nR α) Q := by
  have hs := hn.1.2.1
  have hg := aG_lt s a
  unfold wX5_isFrom
  refine M_gen' hn (by omega) ?_
  refine ⟨fun _ => hq, fun _ => ?_⟩
  have e : α 0 31 + 1 = c := by
    rcases hn.1.2.2.2.2.2.2.2.2.2 with q | q
    · omega
    · exact q
  have hc := hn.1.2.2.1
  simp only [nR_at, nI_clamp (show aG s a < 2 ^ 31 by omega)]
  refine ⟨fun _ => hq, fun q1 => ⟨(vp_nI (by omega)).mpr hg, fun _ => hq, fun q2 => ⟨(vp_nI (by omega)).mpr hg, fun _ => hq, fun q3 => ?_⟩⟩⟩
  rw [nI_ltI (by omega) (by omega)] at q1
  have hb := F_bd hn (g := aG s a) (by omega)
  rw [nI_ltI (by omega) (by omega)] at q2
  rw [nI_leI (by omega) (by omega)] at q3
  exact absurd ⟨by omega, by omega, by omega⟩ h
theorem M_fits {g x : Nat} (hn : Gn s b c α) (hc0 : 0 < c) (hg : g < 3) (hx : x ≤ 512) (hl : g < c → α 21 g ≤ 512) {Q : Bool → (Nat → Nat → Int32) → Prop} (ht : α 5 g + x + (if g < c then α 21 g else 0) ≤ sz s g → Q true (nR α)) (hf : ¬ α 5 g + x + (if g < c then α 21 g else 0) ≤ sz s g → Q false (nR α)) : wX5_fits (nI g) (nI x) (nR α) Q := by
  have hs := hn.1.2.1
  have e : α 0 31 + 1 = c := by
    rcases hn.1.2.2.2.2.2.2.2.2.2 with q | q
    · omega
    · exact q
  have hc := hn.1.2.2.1
  have hz := sz_lt (g := g) hs
  have h5 := hn.2.1 g hg
  have h6 : α 5 g ≤ 512 := by
    have := h5.2.1
    omega
  unfold wX5_fits wX5_fits_b26
  simp only [nR_at, nI_clamp (show g < 2 ^ 31 by omega)]
  rw [nI_ltI (by omega) (by omega)]
  refine ⟨(vp_nI (by omega)).mpr hg, fun q => ?_, fun q => ⟨(vp_nI (by omega)).mpr hg, ?_⟩⟩
  · rintro x2 rfl
    refine M_size' hn hg ?_
    rw [← nI_0, nI_add, nI_add, nI_ltI (by omega) (by omega)]
    rw [if_neg (by omega)] at ht hf
    exact ⟨fun q => hf (by omega), fun q => ht (by omega)⟩
  · have := hl (by omega)
    rintro x2 rfl
    refine M_size' hn hg ?_
    rw [nI_add, nI_add, nI_ltI (by omega) (by omega)]
    rw [if_pos (by omega)] at ht hf
    exact ⟨fun q => hf (by omega), fun q => ht (by omega)⟩
/-- words copied one by one -/
def cwA (α : Nat → Nat → Nat) (o a k : Nat) : Nat → Nat → Nat := fun j i => if j = 1 ∧ a ≤ i ∧ i < a + k then α 1 (o + (i - a)) else α j i
theorem cw_0 {o a : Nat} : cwA α o a 0 = α := by
  funext j i
  unfold cwA
  rw [if_neg (by omega)]
theorem cw_S {o a k : Nat} : upN (cwA α o a k) 1 (a + k) (α 1 (o + k)) = cwA α o a (k + 1) := by
  funext j i
  show (if j = 1 ∧ i = a + k then α 1 (o + k) else cwA α o a k j i) = _
  unfold cwA
  by_cases h : j = 1 ∧ i = a + k
  · rw [if_pos h, if_pos (by omega), h.2]
    congr 1
    omega
  · rw [if_neg h]
    by_cases h2 : j = 1 ∧ a ≤ i ∧ i < a + k
    · rw [if_pos h2, if_pos (by omega)]
    · rw [if_neg h2, if_neg (by omega)]
theorem M_cpl {o a n A g : Nat} {t : Int32} (ho : o + n ≤ 1793) (ha : a + n ≤ 1793) (hd : ∀ i, o ≤ i → i < o + n → ¬ (a ≤ i ∧ i < a + n)) {Q : Int32 → (Nat → Nat → Int32) → Prop} (h : wX5_copy_b139 (nI o) 1 (nI n) (nI a) t (nI A) (nI n) (nI g) (nR (cwA α o a n)) Q) : ∀ m k, k + m = n → wX5_copy_b139 (nI o) (m + 1) (nI k) (nI a) t (nI A) (nI n) (nI g) (nR (cwA α o a k)) Q
  | 0, k, e => by
    have e : k = n := by omega
    subst e
    exact h
  | m + 1, k, e => by
    rw [wX5_copy_b139]
    refine ⟨fun q => ?_, fun _ => ?_⟩
    · rw [nI_leI (by omega) (by omega)] at q
      omega
    · rw [nI_add, nI_add, nI_clamp (by omega), nI_clamp (by omega)]
      refine ⟨(vp_nI (by omega)).mpr (by omega), (vp_nI (by omega)).mpr (by omega), ?_⟩
      rintro S1 rfl x rfl
      have e2 : cwA α o a k 1 (o + k) = α 1 (o + k) := if_neg (fun q => hd (o + k) (by omega) (by omega) ⟨q.2.1, by omega⟩)
      rw [nR_at, e2, up2_nR, cw_S, nI_1]
      exact M_cpl ho ha hd h m (k + 1) (by omega)
theorem cp_end {o g t a n hd : Nat} (hgt : g < t ∨ g = t) : upN (upN (upN (upN (cwA (upN (upN α 21 g (α 21 g - n)) 5 t (α 5 t + n)) o a n) 1 a hd) 0 25 (α 0 25 + (if g < t then 1 else 0))) 0 32 (α 0 32 + n)) 2 o a = cpA α o g t a n hd := by
  funext k i
  simp only [upN_get, cwA, cpA]
  by_cases h1 : k = 1
  · subst h1
    by_cases h : i = a
    · simp [h]
    · have e : (a ≤ i ∧ i < a + n) ↔ (a < i ∧ i < a + n) := by omega
      simp [h, e]
  · by_cases h2 : k = 2
    · subst h2
      simp
    · by_cases h5 : k = 5
      · subst h5
        simp
      · by_cases h6 : k = 21
        · subst h6
          simp
        · by_cases h7 : k = 0
          · subst h7
            by_cases e1 : i = 25
            · subst e1; simp
            · by_cases e2 : i = 32
              · subst e2; simp
              · simp [e1, e2]
          · simp [h1, h2, h5, h6, h7]
end PM2
