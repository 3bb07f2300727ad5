/-! THE PURE PART: both scan -/
section PS2
variable {s b c lo hi ns nr nq : Nat} {n : Nat → Nat} {β : Nat → Nat → Nat}
theorem least3 (p : Nat → Prop) (h : ¬ ∀ j, j < 3 → p j) : ∃ g, g < 3 ∧ (∀ j, j < g → p j) ∧ ¬ p g := by
  by_cases h0 : p 0
  · by_cases h1 : p 1
    · by_cases h2 : p 2
      · exact absurd (fun j hj => by
          rcases (show j = 0 ∨ j = 1 ∨ j = 2 by omega) with e | e | e <;> rw [e] <;> assumption) h
      · exact ⟨2, by omega, fun j hj => by
          rcases (show j = 0 ∨ j = 1 by omega) with e | e <;> rw [e] <;> assumption, h2⟩
    · exact ⟨1, by omega, fun j hj => by
        rw [show j = 0 by omega]; exact h0, h1⟩
  · exact ⟨0, by omega, fun j hj => by omega, h0⟩
theorem J_scan (hc : 0 < c) (hN : LN n s b) : ∀ (M d : Nat) (α : Nat → Nat → Nat) (z : Nat → Nat) (S : Nat → Nat → Int32) (h22 : Nat → Nat), (sz s 0 - h22 0) + (sz s 1 - h22 1) + (sz s 2 - h22 2) ≤ M → d + M ≤ 7 * s → IG s b c α z S lo hi (KS s β h22) β h22 nr ns nq → ∃ α' z' S' h', IG s b c α' z' S' lo hi (KS s β h') β h' nr ns nq ∧ (∀ g, g < 3 → h' g = α' 5 g) ∧ α' 0 14 = α 0 14 ∧ (∀ Q : Unit → (Nat → Nat → Int32) → Prop, Q () (nR α') → ∃ f, wX5_scan_b2 f 0 (nR α) Q) ∧ (∀ Q : Unit → (Nat → Nat → Int32) → Prop, Q () S' → ∃ f, wX1_scan_b2 n f (nI d) S Q) := by
  intro M
  induction M using Nat.strongRecOn with
  | ind M ih =>
  intro d α z S h22 hM hdM hg
  have hs1 := hg.1.1.1.2.1
  have hs0 := hg.1.1.1.1
  have hn26 : n 26 = 1 + 14 * s := hN.2.2.2.2.2.2.2.2.2.2.1
  have e22 : α 22 = h22 := hg.2.2.2.1.2.2.1.2.2.2
  have e4 := hg.2.2.2.1.2.2.1.1
  by_cases hall : ∀ j, j < 3 → α 22 j = α 5 j
  · refine ⟨α, z, S, h22, hg, fun g hg3 => by rw [← e22]; exact hall g hg3, rfl, fun Q hQ => ⟨1 + 3, ?_⟩, fun Q hQ => ⟨1, ?_⟩⟩
    · refine M_ls hg.1.1 (by omega) (g := 3) (fun j hj => hall j hj) ?_ 3 0 (by omega)
      rw [wX5_scan_b2]
      exact ⟨fun _ => hQ, fun q => absurd (show (3 : Int32) ≤ nI 3 by decide) q⟩
    · rw [wX1_scan_b2, hn26, nI_leI (by omega) (by omega)]
      refine ⟨fun q => absurd q (by omega), fun _ => ⟨4, C_ls hg.1.1 hg.2.2.1.1 (fun k hk h1 h2 => absurd (hall k hk) h2) (fun _ => ⟨fun _ => hQ, fun g6 q => (by simp at q)⟩) 3 0 (by omega) (fun j hj => by omega)⟩⟩
  · obtain ⟨g, hg3, hlt, hne⟩ := least3 _ hall
    obtain ⟨gi, gk, gr, gx, gp⟩ := hg
    have hb5 := gi.1.2.1 g hg3
    have hzs := sz_lt (g := g) hs1
    have hu5 : α 5 g ≤ sz s g := by
      have := hb5.2.1
      omega
    have hub := U_bd gi.1 hg3
    have hlt5 : α 22 g < α 5 g := by omega
    have ho : OU s α z (st s α g + α 22 g) := ⟨U_of gi.1 hg3 (by omega) (by omega), gx.1 g hg3 hlt5⟩
    have hgo := U_gen (a := st s α g + α 22 g) gi.1 hg3 (by omega) (by omega)
    have hp := OU_pz gi.2.2.1 ho
    have hhd := (gi.2.2.2.1 _ (Or.inl ho)).1
    have hol := U_lt gi.1 ho.1
    rw [hgo] at hp
    unfold HD at hhd
    have w26 : S 26 (st s α g + α 22 g) = nI (α 1 (st s α g + α 22 g)) := gr.2.2.2.1.2 _ (Or.inl ho.1) (fun q => UF_no gi.1 ho.1 q.1.1)
    have gi2 := Gi_K (K' := fun x => KS s β h22 x ∨ (st s α g + α 22 g + 2 ≤ x ∧ x < st s α g + α 22 g + 2)) gi (fun x h _ => h.elim (fun q => q) (fun q => by omega))
    obtain ⟨α1, z1, S1, a1, a2, a3, a4, a5, a6⟩ := L_obj (h22 := h22) (o := st s α g + α 22 g) (m0 := z (st s α g + α 22 g)) hc hN hg3 hgo (z (st s α g + α 22 g) - 2) (st s α g + α 22 g + 2) α z S (by omega) (Nat.le_refl _) ho rfl ⟨gi2, fun x h => h.elim (fun q => gk x q) (fun q => by omega), gr, gx, gp⟩
    have ho2 : st s α g + α 22 g = hb s g (β 4 g) + h22 g := by
      unfold st
      rw [e4, e22]
    have hn2 := sc_next hg3 hgo ho2 a2 a3 a1
    obtain ⟨α2, z2, S2, h', b1, b2, b3, b4, b5⟩ := ih ((sz s 0 - (if 0 = g then h22 g + z (st s α g + α 22 g) else h22 0)) + (sz s 1 - (if 1 = g then h22 g + z (st s α g + α 22 g) else h22 1)) + (sz s 2 - (if 2 = g then h22 g + z (st s α g + α 22 g) else h22 2))) (by
      rw [e22] at hp hlt5
      have e22g : α 22 g = h22 g := by rw [e22]
      rcases (show g = 0 ∨ g = 1 ∨ g = 2 by omega) with e | e | e <;> subst e <;> simp <;> omega) (d + 1) _ _ _ _ (Nat.le_refl _) (by
      rw [e22] at hp hlt5
      have e22g : α 22 g = h22 g := by rw [e22]
      rcases (show g = 0 ∨ g = 1 ∨ g = 2 by omega) with e | e | e <;> subst e <;> simp <;> omega) hn2
    refine ⟨α2, z2, S2, h', b1, b2, b3.trans a4, fun Q hQ => ?_, fun Q hQ => ?_⟩
    · obtain ⟨f, hf⟩ := b4 Q hQ
      refine ⟨f + 1 + g, M_ls gi.1 (by omega) hlt ?_ g 0 (by omega)⟩
      rw [wX5_scan_b2, show (3 : Int32) = nI 3 from rfl, nI_leI (by omega) (by omega), nI_clamp (show g < 2 ^ 31 by omega), nR_at, nR_at, nI_eq (by omega) (by omega)]
      refine ⟨fun q => absurd q (by omega), fun _ => ⟨(vp_nI (by omega)).mpr hg3, (vp_nI (by omega)).mpr hg3, fun q => absurd q hne, fun _ => ⟨(vp_nI (by omega)).mpr hg3, ?_⟩⟩⟩
      refine M_begin' gi.1 hg3 hb5.1 ⟨(vp_nI (by omega)).mpr hg3, ?_⟩
      rintro x8 rfl
      rw [nR_at, nI_add, show hb s g (α 4 g) + α 22 g = st s α g + α 22 g from rfl]
      refine M_fields (by omega) (by omega) ?_
      rintro x12 rfl
      rw [show (2 : Int32) = nI 2 from rfl, nI_add, show α 1 (st s α g + α 22 g) % 8 = z (st s α g + α 22 g) - 2 by omega]
      exact ⟨_, a5 Q _ hf⟩
    · obtain ⟨f, hf⟩ := b5 Q hQ
      refine ⟨f + 1, ?_⟩
      rw [wX1_scan_b2, hn26, nI_leI (by omega) (by omega)]
      refine ⟨fun q => absurd q (by omega), fun _ => ⟨4, C_ls gi.1 gr.1 (fun k hk h1 h2 => ?_) (fun q => absurd q hall) 3 0 (by omega) (fun j hj => by omega)⟩⟩
      have ek : k = g := by
        rcases Nat.lt_trichotomy k g with q | q | q
        · exact absurd (hlt k q) h2
        · exact q
        · exact absurd (h1 g q) hne
      subst ek
      refine ⟨fun q => (by simp at q), ?_⟩
      rintro g6 q
      have e6 : k = g6 := by simpa using q
      subst e6
      obtain ⟨-, -, -, -, r4, -, -, -, r8, -⟩ := gr.1 k hg3
      rw [r4, r8, nI_add]
      rintro x7 rfl
      refine C_fieldsOf (w := α 1 (st s α k + α 22 k)) (by omega) (by omega) w26 (by omega) ?_
      rintro x11 rfl x13 rfl
      rw [show (2 : Int32) = nI 2 from rfl, nI_add, nI_add, show st s α k + α 22 k + 2 + α 1 (st s α k + α 22 k) % 8 = st s α k + α 22 k + z (st s α k + α 22 k) by omega]
      exact ⟨_, a6 Q _ d hf⟩
end PS2
