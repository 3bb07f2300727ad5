/-! THE PURE PART: the class brings -/
def cpS (S : Nat → Nat → Int32) (o g t a n hd : Nat) : Nat → Nat → Int32 := fun k i =>
  if k = 26 then (if i = o then -(nI a) else if i = a then nI hd else if a < i ∧ i < a + n then S 26 (o + (i - a)) else S 26 i)
  else if k = 1 then (if i = 11 then S 1 11 + nI n else if i = 12 then S 1 12 + nI (if g < t then 1 else 0) else S 1 i)
  else if k = 3 + g ∧ i = 7 then S (3 + g) 7 - nI n
  else if k = 3 + t ∧ i = 5 then S (3 + t) 5 + nI n
  else S k i
def cpT (S : Nat → Nat → Int32) (o t a n hd : Nat) : Nat → Nat → Int32 := fun k i =>
  if k = 26 then (if i = o then -(nI a) else if i = a then nI hd else if a < i ∧ i < a + n then S 26 (o + (i - a)) else S 26 i)
  else if k = 1 ∧ i = 11 then S 1 11 + nI n
  else if k = 3 + t ∧ i = 5 then S (3 + t) 5 + nI n
  else S k i
theorem cpT_1 {S : Nat → Nat → Int32} {o g t a n hd : Nat} (hg : g < 3) (ht : t < 3) (hgt : g = t) : cpT (up2 S (3 + g) 7 (S (3 + g) 7 - nI n)) o t a n hd = cpS S o g t a n hd := by
  subst hgt
  funext k i
  unfold cpT cpS
  simp only [up2_get]
  by_cases h : k = 26
  · rw [if_pos h, if_pos h]
    simp only [show ¬ (26 = 3 + g) by omega, false_and, if_false]
  · rw [if_neg h, if_neg h]
    by_cases h1 : k = 1
    · subst h1
      simp only [show ¬ (1 = 3 + g) by omega, false_and, if_false, true_and, if_true, Nat.lt_irrefl, nI_0, Int32.add_zero]
      by_cases h2 : i = 11
      · simp [h2]
      · by_cases h3 : i = 12
        · simp [h3]
        · simp [h2, h3]
    · by_cases h2 : k = 3 + g
      · subst h2
        by_cases h3 : i = 7
        · simp [h1, h3]
        · by_cases h4 : i = 5
          · simp [h1, h4]
          · simp [h1, h3, h4]
      · simp [h1, h2]
theorem cpT_2 {S : Nat → Nat → Int32} {o g t a n hd : Nat} (hg : g < 3) (ht : t < 3) (hgt : g < t) : cpT (up2 (up2 S (3 + g) 7 (S (3 + g) 7 - nI n)) 1 12 (S 1 12 + 1)) o t a n hd = cpS S o g t a n hd := by
  funext k i
  unfold cpT cpS
  simp only [up2_get]
  have e1 : (nI (if g < t then 1 else 0) : Int32) = 1 := by rw [if_pos hgt]; rfl
  rw [e1]
  by_cases h : k = 26
  · rw [if_pos h, if_pos h]
    simp only [show ¬ (26 = 3 + g) by omega, show ¬ (26 = 1) by omega, false_and, if_false]
  · rw [if_neg h, if_neg h]
    by_cases h1 : k = 1
    · subst h1
      simp only [show ¬ (1 = 3 + g) by omega, show ¬ (1 = 3 + t) by omega, false_and, if_false, true_and, if_true]
      by_cases h2 : i = 11
      · simp [h2]
      · by_cases h3 : i = 12
        · simp [h3]
        · simp [h2, h3]
    · by_cases h2 : k = 3 + g
      · subst h2
        have e3 : ¬ (g = t) := by omega
        simp [h1, e3]
      · by_cases h3 : k = 3 + t
        · subst h3
          have e3 : ¬ (t = g) := by omega
          simp [h1, e3]
        · simp [h1, h2, h3]
section PCC
variable {s b c : Nat} {α : Nat → Nat → Nat} {z : Nat → Nat} {S : Nat → Nat → Int32} {n : Nat → Nat}
theorem C_b125 {o t a u w m A hd : Nat} (ht : t < 3) (h4 : S (3 + t) 4 = nI a) (h5 : S (3 + t) 5 = nI u) (hw : S 26 o = nI w) (hw2 : w < 128) (hA : A < 8) (hh : hd = w % 8 + 8 * A + w / 64 * 64) (ho : o + m ≤ n 26) (ha : a + u + m ≤ n 26) (hN : n 26 < 2 ^ 20) (hm : 2 ≤ m) (hno : ¬ (a + u ≤ o ∧ o < a + u + m)) {Q : Int32 → (Nat → Nat → Int32) → Prop} (hq : Q (nI (a + u)) (cpT S o t (a + u) m hd)) : wX1_brought_b125 n (nI o) (nI A) (nI m) t S Q := by
  unfold wX1_brought_b125 wX0_take
  rw [h4, h5, nI_add, nI_add]
  rintro x rfl S3 rfl
  rw [nI_clamp (show o < 2 ^ 31 by omega), nI_clamp (show a + u < 2 ^ 31 by omega), nI_clamp (show m < 2 ^ 31 by omega)]
  refine ⟨⟨nI_pos (by omega), nI_pos (by omega), nI_pos (by omega), ho, ha⟩, ?_⟩
  rintro S29 rfl
  refine ⟨(vp_nI (by omega)).mpr (by omega), (vp_nI (by omega)).mpr (by omega), ?_⟩
  rintro S31 rfl
  refine ⟨(vp_nI (by omega)).mpr (by omega), ?_⟩
  rintro S33 rfl S35 rfl
  have r26 : up2 S (3 + t) 5 (nI (u + m)) 26 = S 26 := up2_row S (by omega)
  have e1 : upR (up2 S (3 + t) 5 (nI (u + m))) 26 (va_cpy (up2 S (3 + t) 5 (nI (u + m)) 26) (up2 S (3 + t) 5 (nI (u + m)) 26) o (a + u) m) 26 o = nI w := by
    rw [upR_get, if_pos rfl, r26, pk_cpy_out (by omega), hw]
  rw [e1, ageHd w hw2 A hA, ← hh]
  have key : up2 (up2 (up2 (upR (up2 S (3 + t) 5 (nI (u + m))) 26 (va_cpy (up2 S (3 + t) 5 (nI (u + m)) 26) (up2 S (3 + t) 5 (nI (u + m)) 26) o (a + u) m)) 26 (a + u) (nI hd)) 26 o (-(nI (a + u)))) 1 11 (up2 (up2 (upR (up2 S (3 + t) 5 (nI (u + m))) 26 (va_cpy (up2 S (3 + t) 5 (nI (u + m)) 26) (up2 S (3 + t) 5 (nI (u + m)) 26) o (a + u) m)) 26 (a + u) (nI hd)) 26 o (-(nI (a + u))) 1 11 + nI m) = cpT S o t (a + u) m hd := by
    rw [r26]
    funext k i
    unfold cpT
    simp only [up2_get, upR_get]
    by_cases k26 : k = 26
    · subst k26
      simp only [show ¬ (26 = 1) by omega, false_and, if_false, true_and, if_true]
      by_cases h1 : i = o
      · rw [if_pos h1, if_pos h1]
      · rw [if_neg h1, if_neg h1]
        by_cases h2 : i = a + u
        · rw [if_pos h2, if_pos h2]
        · rw [if_neg h2, if_neg h2]
          by_cases h3 : a + u < i ∧ i < a + u + m
          · rw [if_pos h3, pk_cpy_in (by omega) (by omega)]
          · rw [if_neg h3, pk_cpy_out (by omega)]
    · by_cases k1 : k = 1
      · subst k1
        simp only [show ¬ (1 = 26) by omega, show ¬ (1 = 3 + t) by omega, false_and, if_false]
      · by_cases kt : k = 3 + t
        · subst kt
          simp only [show ¬ (3 + t = 26) by omega, show ¬ (3 + t = 1) by omega, false_and, if_false]
          by_cases i5 : i = 5
          · simp [i5, h5, nI_add]
          · simp [i5]
        · simp [k26, k1, kt]
  rw [key]
  exact hq
theorem cp_C {o t hd : Nat} (h : CG s b c α z o t hd) (hw : HD (α 1 o) (z o)) (ht : CT s c α z o t hd) (hr : RS s c α z S) (hN : n 26 = 1 + 14 * s) {Q : Int32 → (Nat → Nat → Int32) → Prop} (hq : Q (nI (st s α t + α 5 t)) (cpS S o (aG s o) t (st s α t + α 5 t) (z o) hd)) : wX1_brought n (nI o) S Q := by
  have hl := cp_left h
  have hroom := cp_room h
  have hfr := fun a => @cp_fresh s b c α z o t hd h a
  have hop := OF_pz h.2.2.1 h.2.2.2.2.1
  obtain ⟨hn, hs, hz, hf, ho, h2, h3, h4, -⟩ := h
  have hu := U_bd hn h3
  have hlo := F_lt hn ho.1
  have hfb := F_bd hn ho.1.1
  have hg := aG_lt s o
  have hs1 := hn.1.2.1
  have hsz := sz_lt (g := aG s o) hs1
  have hszt := sz_lt (g := t) hs1
  have hA := agN_le (α 1 o)
  have hb := hw
  unfold HD at hb
  have hoF : o + z o ≤ 1 + 14 * s := by
    have e := OF_in hn hz ho (i := z o - 1) (by omega)
    have := F_lt hn e.2
    omega
  have haF : st s α t + α 5 t + z o ≤ 1 + 14 * s := by
    have q1 := hb_in (s := s) (h := α 4 t) h3
    have q2 := bs_top (s := s) h3
    unfold st
    omega
  have hno : ¬ (st s α t + α 5 t ≤ o ∧ o < st s α t + α 5 t + z o) := fun q => (hfr o q.1 q.2).2.2 ho.1
  have w26 : S 26 o = nI (α 1 o) := hr.2.2.2.1.2 o (Or.inr ho.1) (fun q => q.2 h2)
  have rg := hr.1
  obtain ⟨g0, g1, g2, g3, g4, g5, g6, g7, g8, g9⟩ := rg _ hg
  rw [if_pos ho.1.1] at g7
  have hld : α 21 (aG s o) ≤ 512 := by
    have := (hn.2.1 _ hg).2.1
    rw [if_pos ho.1.1] at this
    omega
  unfold wX1_brought
  refine C_home hs1 (by omega) rg ?_
  refine C_from_t hn rg ho.1 ?_
  refine ⟨fun q => (by simp at q), fun _ => ⟨(vp_nI (by omega)).mpr (by omega), fun _ => ?_, fun q => ?_⟩⟩
  · refine C_fieldsOf (w := α 1 o) (by omega) (by omega) w26 (by omega) ?_
    rintro x10 rfl
    refine C_ageOf (w := α 1 o) (by omega) (by omega) w26 (by omega) ?_
    have e2 : (2 : Int32) + nI (α 1 o % 8) = nI (z o) := by
      rw [show (2 : Int32) = nI 2 from rfl, nI_add, Nat.add_comm, hb.1]
    have eA : (if (7 : Int32) < nI (α 1 o / 8 % 8) + 1 then (7 : Int32) else nI (α 1 o / 8 % 8) + 1) = nI (agN (α 1 o)) := by
      rw [nI_1, show (7 : Int32) = nI 7 from rfl]
      unfold agN
      by_cases q : 7 < α 1 o / 8 % 8 + 1
      · rw [if_pos ((nI_ltI (by omega) (by omega)).mpr q), if_pos (by omega)]
      · rw [if_neg (fun q2 => q ((nI_ltI (by omega) (by omega)).mp q2)), if_neg (by omega)]
    rw [e2, eA]
    rintro x14 rfl S16 rfl
    have f0 : up2 S (3 + aG s o) 7 (S (3 + aG s o) 7 - nI (z o)) (3 + aG s o) 0 = nI (aG s o) := by rw [up2_mis S _ (by omega), g0]
    have f3 : aG s o < 2 → up2 S (3 + aG s o) 7 (S (3 + aG s o) 7 - nI (z o)) (3 + aG s o) 3 = nI (α 3 (aG s o)) := fun q => by rw [up2_mis S _ (by omega), g3 q]
    have f26 : ∀ i, up2 S (3 + aG s o) 7 (S (3 + aG s o) 7 - nI (z o)) 26 i = S 26 i := fun i => by rw [up2_row S (by omega)]
    have f4 : ∀ k, k < 3 → up2 S (3 + aG s o) 7 (S (3 + aG s o) 7 - nI (z o)) (3 + k) 4 = nI (st s α k) := fun k hk => by
      rw [up2_get, if_neg (by omega), (rg k hk).2.2.2.2.1]
    have f5 : ∀ k, k < 3 → up2 S (3 + aG s o) 7 (S (3 + aG s o) 7 - nI (z o)) (3 + k) 5 = nI (α 5 k) := fun k hk => by
      rw [up2_get, if_neg (by omega), (rg k hk).2.2.2.2.2.1]
    have stay : (t = aG s o) → wX1_brought_b125 n (nI o) (nI (agN (α 1 o))) (nI (z o)) (aG s o) (up2 S (3 + aG s o) 7 (S (3 + aG s o) 7 - nI (z o))) Q := fun e => by
      have hh : hd = α 1 o % 8 + 8 * agN (α 1 o) + α 1 o / 64 * 64 := by
        rcases ht with q | q
        · omega
        · exact q.2.2
      rw [← cpT_1 hg h3 e.symm] at hq
      rw [e] at hq
      have q5 := C_b125 (n := n) (S := up2 S (3 + aG s o) 7 (S (3 + aG s o) 7 - nI (z o))) (o := o) (t := aG s o) (a := st s α (aG s o)) (u := α 5 (aG s o)) (w := α 1 o) (m := z o) (A := agN (α 1 o)) (hd := hd) hg (f4 _ hg) (f5 _ hg) (by rw [f26, w26]) hb.2 (by omega) hh (by omega) (by rw [← e]; omega) (by omega) hop.1 (by rw [← e]; exact hno) (Q := Q) hq
      exact q5
    rw [f0, show (2 : Int32) = nI 2 from rfl, nI_leI (by omega) (by omega), nI_1, nI_clamp (show aG s o + 1 < 2 ^ 31 by omega)]
    refine ⟨fun q => stay ?_, fun q => ?_⟩
    · rcases ht with q2 | q2
      · omega
      · exact q2.1
    · have hl3 : α 3 (aG s o) ≤ 6 := by
        have := hn.1.2.2.2.2.2.2.2
        rcases (show aG s o = 0 ∨ aG s o = 1 by omega) with q5 | q5 <;> rw [q5] <;> omega
      rw [f3 (by omega), nI_leI (by omega) (by omega)]
      refine ⟨fun q3 => stay ?_, fun q3 => ⟨(vp_nI (by omega)).mpr (by omega), ?_⟩⟩
      · rcases ht with q2 | q2
        · omega
        · exact q2.1
      · obtain ⟨k0, k1, k2, k3, k4, k5, k6, k7, k8, k9⟩ := rg (aG s o + 1) (by omega)
        have hsz1 := sz_lt (g := aG s o + 1) hs1
        have hu1 := (hn.2.1 (aG s o + 1) (by omega)).2.1
        have up : ∀ i, up2 S (3 + aG s o) 7 (S (3 + aG s o) 7 - nI (z o)) (3 + (aG s o + 1)) i = S (3 + (aG s o + 1)) i := fun i => by rw [up2_row S (by omega)]
        have hle : (if aG s o + 1 < c then α 21 (aG s o + 1) else 0) ≤ 512 := by omega
        refine C_fits (g := aG s o + 1) (A := sz s (aG s o + 1)) (B := α 5 (aG s o + 1)) (D := if aG s o + 1 < c then α 21 (aG s o + 1) else 0) (by rw [up, k2]) (by rw [up, k5]) (by rw [up, k7]) (by omega) (by omega) (by omega) (by omega) (fun q4 => ?_) (fun q4 => ?_)
        · refine ⟨fun q5 => (by simp at q5), fun _ => ?_⟩
          rw [f0, nI_1, nI_clamp (show aG s o + 1 < 2 ^ 31 by omega)]
          refine ⟨(vp_nI (by omega)).mpr (by omega), ?_⟩
          rintro S25 rfl
          rcases ht with q2 | q2
          · have hh := q2.2.2.2.2
            have e := q2.1
            have e12 : up2 S (3 + aG s o) 7 (S (3 + aG s o) 7 - nI (z o)) 1 12 = S 1 12 := by rw [up2_row S (by omega)]
            rw [e12]
            rw [← cpT_2 hg h3 (by omega)] at hq
            rw [e] at hq
            refine C_b125 (w := α 1 o) (A := 0) (hd := hd) (by omega) ?_ ?_ ?_ hb.2 (by omega) hh (by omega) (by rw [← e]; omega) (by omega) hop.1 (by rw [← e]; exact hno) hq
            · rw [up2_row _ (by omega), f4 _ (by omega)]
            · rw [up2_row _ (by omega), f5 _ (by omega)]
            · rw [up2_row _ (by omega), f26, w26]
          · exact absurd q4 (q2.2.1 (by omega) (by omega))
        · refine ⟨fun _ => stay ?_, fun q5 => (by simp at q5)⟩
          rcases ht with q2 | q2
          · exact absurd q2.2.2.2.1 q4
          · exact q2.1
  · rw [nI_clamp (by omega), w26] at q
    exact absurd (nI_pos' (by omega)) q
end PCC
