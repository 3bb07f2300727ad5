/-! THE PURE PART: both gather -/
section PGA
variable {s b c : Nat} {α : Nat → Nat → Nat} {z : Nat → Nat} {S : Nat → Nat → Int32} {n : Nat → Nat}
def FS0 (α α' : Nat → Nat → Nat) : Prop := α' 0 0 = α 0 0 ∧ α' 0 27 = α 0 27 ∧ α' 0 29 = α 0 29
theorem IG_ns {lo hi : Nat} {K : Nat → Prop} {β : Nat → Nat → Nat} {h22 : Nat → Nat} {nr nq : Nat} (h : IG s b c α z S lo hi K β h22 nr (α 0 9) nq) : IG s b c α z S lo hi K β h22 nr 1000 nq := ⟨h.1, h.2.1, h.2.2.1, h.2.2.2.1, h.2.2.2.2.1, fun i _ h2 => h.2.2.2.2.2.1 i h2 h2, h.2.2.2.2.2.2⟩
theorem IG_nq {lo hi : Nat} {K : Nat → Prop} {β : Nat → Nat → Nat} {h22 : Nat → Nat} {nr ns : Nat} (h : IG s b c α z S lo hi K β h22 nr ns (α 0 14)) : IG s b c α z S lo hi K β h22 nr ns 1000 := ⟨h.1, h.2.1, h.2.2.1, h.2.2.2.1, h.2.2.2.2.1, h.2.2.2.2.2.1, fun i _ h2 => h.2.2.2.2.2.2.1 i h2 h2, h.2.2.2.2.2.2.2⟩
theorem IG_back {lo hi : Nat} {K : Nat → Prop} {β : Nat → Nat → Nat} {h22 : Nat → Nat} {nr nq : Nat} (h : IG s b c α z S lo hi K β h22 nr 1000 nq) : IG s b c α z S lo hi K β h22 nr (α 0 9) nq := ⟨h.1, h.2.1, h.2.2.1, h.2.2.2.1, h.2.2.2.2.1, fun i h1 h2 => h.2.2.2.2.2.1 i (by have := h.1.2.2.2.2.2.1.2.1; omega) h2, h.2.2.2.2.2.2⟩
theorem C_pra {Q : Unit → (Nat → Nat → Int32) → Prop} (hq : Q () (paS S)) : wX1_putRowsAside n S Q := by
  unfold wX1_putRowsAside
  rintro S1 rfl S3 rfl S6 rfl S9 rfl
  have e8 : up2 (up2 S 1 9 (S 1 8)) 1 8 (S 1 9) 1 8 = S 1 9 := up2_hit _ _ _ _
  have r0 := rrow_in (S 1 9) (show 0 < 2 by omega)
  have e6 : up2 (up2 (up2 S 1 9 (S 1 8)) 1 8 (S 1 9)) (rrow (S 1 9) 0) 1 0 1 8 = S 1 9 := by rw [up2_row _ (by omega), e8]
  rw [e8, e6]
  exact hq
theorem J_gather {g0 : Nat} (hN : LN n s b) (hg0 : g0 < 3) (hi' : Gi s b 0 α z 0 0 (fun _ => True)) (hr : RS s 0 α z S) : ∃ α' z' S' r, Gi s b 0 α' z' 0 0 (fun _ => True) ∧ RS s 0 α' z' S' ∧ FS0 α α' ∧ (∀ Q : Int32 → (Nat → Nat → Int32) → Prop, Q (nI r) (nR α') → wX5_gather (nI g0) (nR α) Q) ∧ (∀ Q : Int32 → (Nat → Nat → Int32) → Prop, Q (nI r) S' → wX1_gather n (nI g0) S Q) := by
  obtain ⟨α1, S1, f1, f2, f3, f4, f5, f6⟩ := J_filt hN hi' hr
  have hn1 := f1.1
  have hs1 := hn1.1.2.1
  have hc12 : ∀ r, r < 2 → α1 12 r < 1000 := fun r hr => by
    have := row_le hn1 f1.2.2.1 f1.2.2.2.2.2.2.2.2.1 hr
    split at this <;> omega
  obtain ⟨α2, p1, p2⟩ := M_pref hn1 hg0 hc12
  obtain ⟨S3, c1, c2⟩ := C_begins (n := n) (x := S 1 11) hn1 hg0 f3.1 3 0 S1 rfl ⟨fun g hg => by omega, fun g hg => by omega, fun g _ i _ => rfl, fun r _ => rfl⟩
  have q1 := pa_PSg f3.2.2.2.2.1.2.2.2 c1
  have i0 := IG_start hg0 f1 f2 p1 q1 f3
  have hc : 0 < g0 + 1 := by omega
  obtain ⟨α4, z4, S4, i4, n4, m4, k4⟩ := L_root (nI g0) hc hN 16 0 α2 z (paS S3) rfl i0
  obtain ⟨α5, z5, S5, i5, n5, m5, k5⟩ := L_stack (nI g0) hc hN (α4 0 9) 0 α4 z4 S4 (by omega) i4
  obtain ⟨α6, z6, S6, i6, n6, m6, k6⟩ := L_queue (nI g0) hc hN (α5 0 14) 0 α5 z5 S5 (by omega) (IG_ns i5)
  obtain ⟨α7, z7, S7a, S7, i7, n7, m7, k7a, k7⟩ := J_rows rfl hN (IG_nq i6)
  have hmeas : ∀ h : Nat → Nat, (sz s 0 - h 0) + (sz s 1 - h 1) + (sz s 2 - h 2) ≤ 7 * s := fun h => by
    have e0 : sz s 0 = s := rfl
    have e1 : sz s 1 = 2 * s := rfl
    have e2 : sz s 2 = 4 * s := rfl
    omega
  obtain ⟨α8, z8, S8, h8, i8, j8, n8, m8, k8⟩ := J_scan hc hN (7 * s) 0 α7 z7 S7 (α2 22) (hmeas _) (by omega) i7
  obtain ⟨α9, z9, S9, N, i9, n9, m9, k9⟩ := L_grant hc hN (α8 0 12) 0 0 α8 z8 S8 (by omega) (Nat.le_refl _) i8
  obtain ⟨αA, zA', SA, hA, iA, jA, nA, mA, kA⟩ := J_scan (β := upN α2 0 12 N) hc hN (7 * s) 0 α9 z9 S9 h8 (hmeas _) (by omega) i9
  obtain ⟨αB, SB', iB, wB, rB, mB, kB⟩ := L_weak (nI g0) hc hN 8 0 αA SA rfl iA (fun i hi => by omega)
  have xB := iB.2.2.2.1
  have hN' : N = αB 0 12 := xB.2.2.2.2.2.2.2.2.2.symm
  have hsc : ∀ g, g < 3 → hA g = αB 5 g := fun g hg => by rw [rB 5 (by omega)]; exact jA g hg
  have gE := J_end_Gi (g0 := g0) hN' (IG_back iB) hsc wB
  have rE := J_end_RS (g0 := g0) rfl iB.1.1 iB.2.2.1
  have p0 := p1.1.2.2
  have e24 : αB 0 24 = α 0 24 := by
    have h1 : αB 0 24 = α2 0 24 := xB.2.2.2.2.1
    rw [h1, p0 24 (by omega) (by omega), f6.2.1 24 (by omega)]
  have e0 : αB 0 0 = α 0 0 := by
    have h1 : αB 0 0 = α2 0 0 := xB.2.2.2.1
    rw [h1, p0 0 (by omega) (by omega), f6.2.1 0 (by omega)]
  have e27 : αB 0 27 = α 0 27 := by
    have h1 : αB 0 27 = α2 0 27 := xB.2.2.2.2.2.1
    rw [h1, p0 27 (by omega) (by omega), f6.2.1 27 (by omega)]
  have e29 : αB 0 29 = α 0 29 := by
    have h1 : αB 0 29 = α2 0 29 := xB.2.2.2.2.2.2.1
    rw [h1, p0 29 (by omega) (by omega), f6.2.1 29 (by omega)]
  refine ⟨enA αB g0, zA', _, αB 0 32, gE, rE, ⟨e0, e27, e29⟩, fun Q hQ => ?_, fun Q hQ => ?_⟩
  · unfold wX5_gather
    refine f4 _ ?_
    rintro T3 rfl
    rw [up2_nR]
    rintro T5 rfl
    rw [← nI_0, up2_nR]
    refine p2 Q ⟨17, m4 Q ⟨_, m5 Q ⟨_, m6 Q ?_⟩⟩⟩
    refine m7 _ ?_
    refine m8 _ ?_
    refine ⟨_, m9 _ ?_⟩
    refine mA _ ?_
    refine ⟨9, mB Q ?_⟩
    rw [wX5_gather_b330, nI_clamp (by omega)]
    have vg : vp_in (nI g0) 3 := (vp_nI (by omega)).mpr hg0
    refine ⟨fun _ => ⟨vg, vg, ?_⟩, fun q => absurd (show (8 : Int32) ≤ nI 8 by decide) q⟩
    rintro T80 rfl
    rw [nR_at, nI_1, up2_nR]
    rintro T82 rfl
    rw [nR_at, nR_at, nI_add, up2_nR]
    exact hQ
  · unfold wX1_gather
    refine f5 _ ?_
    refine ⟨4, c2 Q ?_⟩
    rw [wX1_gather_b11]
    refine ⟨fun _ => ?_, fun q => absurd (show (3 : Int32) ≤ nI 3 by decide) q⟩
    refine C_pra ?_
    refine ⟨17, k4 _ ?_⟩
    refine ⟨_, k5 _ ?_⟩
    refine ⟨_, k6 _ ?_⟩
    refine k7a _ ?_
    refine k7 _ ?_
    refine k8 _ ?_
    refine ⟨_, k9 _ ?_⟩
    refine kA _ ?_
    refine ⟨9, kB _ ?_⟩
    refine ⟨g0 + 2, ?_⟩
    have hq : Q (SB' 1 11 - S 1 11) (up2 (eS SB' (g0 + 1)) (3 + g0) 9 (SB' (3 + g0) 9 + 1)) := by
      have h1 := iB.2.2.1.2.2.2.2.1.2.2.1
      have h2 := hr.2.2.2.2.1.2.2.1
      rw [if_neg (by omega)] at h1
      rw [if_pos rfl, Nat.add_zero] at h2
      rw [h1, h2, e24, pk_sub (by omega), Nat.add_sub_cancel_left]
      exact hQ
    have := C_ends (n := n) (x := S 1 11) hg0 hq (g0 + 1) 0 (by omega)
    rw [eS_0] at this
    exact this
end PGA
