/-! THE PURE PART: the start; all together -/
def iA (s0 l0 l1 b0 : Nat) : Nat → Nat → Nat := fun k f =>
  if k = 0 ∧ f = 3 then s0 else
  if k = 0 ∧ f = 5 then b0 else
  if k = 3 ∧ f = 0 then l0 else
  if k = 3 ∧ f = 1 then l1 else
  0
theorem iA_nR {s0 l0 l1 b0 : Nat} : initM s0 l0 l1 b0 = nR (iA s0 l0 l1 b0) := by
  funext k f
  show initM s0 l0 l1 b0 k f = nI (iA s0 l0 l1 b0 k f)
  unfold initM iA
  split
  · rfl
  · split
    · rfl
    · split
      · rfl
      · split
        · rfl
        · rfl
theorem iA_Gi {s l0 l1 b : Nat} (h1 : 16 ≤ s) (h2 : s ≤ 128) (h3 : l0 ≤ 6) (h4 : l1 ≤ 6) (h5 : 2 ≤ b) (h6 : b ≤ 64) : Gi s b 0 (iA s l0 l1 b) (fun _ => 0) 0 0 (fun _ => True) := by
  have no : ∀ a, ¬ Ob s 0 (iA s l0 l1 b) (fun _ => 0) a := fun a h => h.elim (fun q => q.2 rfl) (fun q => q.2 rfl)
  refine ⟨⟨⟨h1, h2, by omega, rfl, rfl, h5, h6, h3, h4, Or.inl rfl⟩, fun g hg => ⟨Nat.zero_le _, ?_, Nat.zero_le _⟩, fun g hg => absurd hg (Nat.not_lt_zero _)⟩, fun g hg => absurd hg (Nat.not_lt_zero _), ⟨fun g hg => ⟨fun a _ _ q => absurd rfl q, fun q => ?_⟩, fun g hg => absurd hg (Nat.not_lt_zero _)⟩, fun o h => absurd h (no o), fun o h => absurd (Or.inr h) (no o), ⟨fun i hi => Or.inl rfl, Nat.zero_le _, fun i hi => absurd hi (Nat.not_lt_zero _), fun i hi => Or.inl rfl, ⟨Nat.le_refl 0, Nat.zero_le _, Nat.zero_le _, Nat.zero_le _⟩, fun i hi => absurd hi (Nat.not_lt_zero _), fun i hi => absurd hi (Nat.not_lt_zero _)⟩, ⟨fun i j _ hj => absurd hj (Nat.not_lt_zero _), fun i j _ hj => absurd hj (Nat.not_lt_zero _), fun i j hi => absurd hi (Nat.not_lt_zero _)⟩, ⟨Nat.zero_le _, fun i hi => absurd hi (Nat.not_lt_zero _)⟩, fun r hr i hi => absurd hi (Nat.not_lt_zero _), fun f _ hf => ?_⟩
  · show 0 + (if g < 0 then iA s l0 l1 b 21 g else 0) ≤ sz s g
    rw [if_neg (by omega)]
    omega
  · exact absurd q (Nat.lt_irrefl _)
  · obtain ⟨o, h, -⟩ := hf
    exact absurd (Or.inl h) (no o)
theorem iA_RS {s l0 l1 b : Nat} : RS s 0 (iA s l0 l1 b) (fun _ => 0) (initC s l0 l1) := by
  refine ⟨fun g hg => ?_, ⟨⟨rfl, fun i hi => rfl⟩, ⟨rfl, fun i hi => absurd hi (Nat.not_lt_zero _)⟩, ⟨rfl, fun i hi => rfl⟩, ⟨rfl, fun i hi => absurd hi (Nat.not_lt_zero _)⟩, ⟨rfl, fun i hi => absurd hi (Nat.not_lt_zero _)⟩, ⟨rfl, fun i hi => absurd hi (Nat.not_lt_zero _)⟩⟩, fun r hr => ?_, ⟨fun a h => absurd rfl h.2, fun a _ _ => rfl⟩, ⟨rfl, rfl, rfl, ⟨fun q => absurd (show (1 : Int32) = 0 from q) (by decide), fun q => absurd rfl q⟩⟩, ⟨rfl, rfl, rfl, fun i hi => rfl, fun i hi => rfl⟩⟩
  · match g, hg with
    | 0, _ => exact ⟨rfl, rfl, rfl, fun _ => rfl, rfl, rfl, rfl, rfl, rfl, rfl⟩
    | 1, _ => exact ⟨rfl, rfl, rfl, fun _ => rfl, rfl, rfl, rfl, rfl, rfl, rfl⟩
    | 2, _ => exact ⟨rfl, rfl, rfl, fun q => absurd q (by omega), rfl, rfl, rfl, rfl, rfl, rfl⟩
  · match r, hr with
    | 0, _ => exact ⟨rfl, fun i hi => absurd hi (Nat.not_lt_zero _)⟩
    | 1, _ => exact ⟨rfl, fun i hi => absurd hi (Nat.not_lt_zero _)⟩
theorem lenC_LN {s b : Nat} : LN (lenC s b) s b := ⟨rfl, rfl, rfl, rfl, rfl, rfl, rfl, rfl, rfl, rfl, rfl, rfl, rfl⟩
theorem pure_ops {s b : Nat} {n : Nat → Nat} (hN : LN n s b) : OPS n (PV s b) := fun S T h =>
  ⟨fun a1 a2 a3 a4 => O_make hN h a1 a2 a3 a4, fun a1 a2 a3 => O_push hN h a1 a2 a3, fun a1 a2 a3 => O_put hN h a1 a2 a3, fun a1 a2 a3 => O_get hN h a1 a2 a3, fun a1 a2 => O_move hN h a1 a2, fun a1 => O_keep hN h a1, fun a1 => O_back hN h a1, fun a1 a2 => O_weak hN h a1 a2, fun a1 a2 => O_strong hN h a1 a2, fun a1 => O_wish hN h a1, fun a1 => O_collect hN h a1, fun a1 => O_root hN h a1, fun a1 a2 => O_about hN h a1 a2, fun a1 => O_word hN h a1, fun a1 a2 => O_row hN h a1 a2, fun a1 a2 a3 a4 => O_code hN h a1 a2 a3 a4, O_scrap hN h, fun a1 a2 => O_run hN h a1 a2, fun a1 => O_count hN h a1⟩
theorem pure_main : PURE := fun s l0 l1 b h1 h2 h3 h4 h5 h6 => ⟨PV s b, pure_ops lenC_LN, by
  rw [iA_nR]
  exact ⟨iA s l0 l1 b, fun _ => 0, rfl, iA_Gi h1 h2 h3 h4 h5 h6, iA_RS, Nat.zero_le _⟩⟩
