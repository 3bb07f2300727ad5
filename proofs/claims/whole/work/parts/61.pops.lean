/-! THE PURE PART: the operations: what they share, and the small ones -/
def IX (k : Nat) (a : Int32) : Prop := ∃ j, j < k ∧ a = nI j
def PV (s b : Nat) (S T : Nat → Nat → Int32) : Prop := ∃ α z, T = nR α ∧ Gi s b 0 α z 0 0 (fun _ => True) ∧ RS s 0 α z S ∧ α 0 29 ≤ 64
section POP
variable {s b : Nat} {α : Nat → Nat → Nat} {z : Nat → Nat} {S : Nat → Nat → Int32} {n : Nat → Nat}
theorem PV_thr {t : Nat} (hi' : Gi s b 0 α z 0 0 (fun _ => True)) (hr : RS s 0 α z S) (h29 : α 0 29 ≤ 64) : PV s b S (nR (upN α 0 0 t)) := ⟨_, z, rfl, hi', hr, h29⟩
theorem PV_thrI {t : Nat} (hi' : Gi s b 0 α z 0 0 (fun _ => True)) (hr : RS s 0 α z S) (h29 : α 0 29 ≤ 64) : PV s b S (up2 (nR α) 0 0 (nI t)) := by
  rw [up2_nR]
  exact PV_thr hi' hr h29
theorem IX_out {k : Nat} {a : Int32} (hk : k < 2 ^ 31) (h : ¬ IX k a) : a < 0 ∨ nI k ≤ a := by
  rcases pk_ix a hk with q | q | q
  · exact Or.inl q
  · exact Or.inr q
  · exact absurd q h
theorem M_in_t {k : Nat} {a : Int32} (hk : k < 2 ^ 31) (h : IX (k + 1) a) {S : Nat → Nat → Int32} {Q : Bool → (Nat → Nat → Int32) → Prop} (hq : Q true S) : wX5_in a 0 (nI k) S Q := by
  obtain ⟨j, hj, rfl⟩ := h
  exact ⟨fun q => absurd q (nI_pos (by omega)), fun _ => ⟨fun q => by rw [nI_ltI (by omega) (by omega)] at q; omega, fun _ => hq⟩⟩
theorem M_in_f {k : Nat} {a : Int32} (hk : k + 1 < 2 ^ 31) (h : ¬ IX (k + 1) a) {S : Nat → Nat → Int32} {Q : Bool → (Nat → Nat → Int32) → Prop} (hq : Q false S) : wX5_in a 0 (nI k) S Q := by
  refine ⟨fun _ => hq, fun q0 => ⟨fun _ => hq, fun q1 => ?_⟩⟩
  obtain ⟨j, hj, rfl⟩ := nI_of q0
  rw [nI_ltI (by omega) (by omega)] at q1
  exact absurd ⟨j, by omega, rfl⟩ h
theorem M_rt {a : Int32} (h : IX 16 a) {S : Nat → Nat → Int32} {Q : Bool → (Nat → Nat → Int32) → Prop} (hq : Q true S) : wX5_isRoot a S Q := M_in_t (k := 15) (by omega) h hq
theorem M_rf {a : Int32} (h : ¬ IX 16 a) {S : Nat → Nat → Int32} {Q : Bool → (Nat → Nat → Int32) → Prop} (hq : Q false S) : wX5_isRoot a S Q := M_in_f (k := 15) (by omega) h hq
theorem C_rt {a : Int32} (h : IX 16 a) {Q : Bool → (Nat → Nat → Int32) → Prop} (hq : Q true S) : wX4_isRoot n a S Q := by
  obtain ⟨j, hj, rfl⟩ := h
  exact ⟨fun q => absurd q (nI_pos (by omega)), fun _ => ⟨fun q => by rw [show (16 : Int32) = nI 16 from rfl, nI_leI (by omega) (by omega)] at q; omega, fun _ => hq⟩⟩
theorem C_rf {a : Int32} (h : ¬ IX 16 a) {Q : Bool → (Nat → Nat → Int32) → Prop} (hq : Q false S) : wX4_isRoot n a S Q := by
  refine ⟨fun _ => hq, fun q0 => ⟨fun _ => hq, fun q1 => ?_⟩⟩
  obtain ⟨j, hj, rfl⟩ := nI_of q0
  rw [show (16 : Int32) = nI 16 from rfl, nI_leI (by omega) (by omega)] at q1
  exact absurd ⟨j, by omega, rfl⟩ h
theorem L_rt {a : Int32} (h : IX 16 a) {Q : Unit → (Nat → Nat → Int32) → Prop} {QX : String → (Nat → Nat → Int32) → Prop} (hq : Q () S) : wX4_lookAtRoot n a S Q QX := C_rt h ⟨fun q => (by simp at q), fun _ => hq⟩
theorem L_rf {a : Int32} (h : ¬ IX 16 a) {Q : Unit → (Nat → Nat → Int32) → Prop} {QX : String → (Nat → Nat → Int32) → Prop} (hq : QX "java/lang/IndexOutOfBoundsException" S) : wX4_lookAtRoot n a S Q QX := C_rf h ⟨fun _ => hq, fun q => (by simp at q)⟩
theorem L_wt {a : Int32} (h : IX 8 a) {Q : Unit → (Nat → Nat → Int32) → Prop} {QX : String → (Nat → Nat → Int32) → Prop} (hq : Q () S) : wX4_lookAtWeakPlace n a S Q QX := by
  obtain ⟨j, hj, rfl⟩ := h
  exact ⟨fun q => absurd q (nI_pos (by omega)), fun _ => ⟨fun _ => hq, fun q => absurd (by rw [show (8 : Int32) = nI 8 from rfl, nI_ltI (by omega) (by omega)]; exact hj) q⟩⟩
theorem L_wf {a : Int32} (h : ¬ IX 8 a) {Q : Unit → (Nat → Nat → Int32) → Prop} {QX : String → (Nat → Nat → Int32) → Prop} (hq : QX "java/lang/IndexOutOfBoundsException" S) : wX4_lookAtWeakPlace n a S Q QX := by
  refine ⟨fun _ => hq, fun q0 => ⟨fun q1 => ?_, fun _ => hq⟩⟩
  obtain ⟨j, hj, rfl⟩ := nI_of q0
  rw [show (8 : Int32) = nI 8 from rfl, nI_ltI (by omega) (by omega)] at q1
  exact absurd ⟨j, q1, rfl⟩ h
theorem thr0 {T : Nat → Nat → Int32} {x : Int32} : up2 T 0 0 x 0 0 = x := up2_hit _ _ _ _
theorem set_thr {t : Nat} : up2 (nR α) 0 0 (nI t) = nR (upN α 0 0 t) := up2_nR _ _ _ _
/-- root -/
theorem O_root (hN : LN n s b) {T : Nat → Nat → Int32} (h : PV s b S T) (a1 : Int32) : op_root n a1 S T (PV s b) := by
  obtain ⟨α, z, rfl, gi, gr, h29⟩ := h
  unfold op_root wL_root wX4_root
  by_cases hr : IX 16 a1
  · refine L_rt hr ?_
    obtain ⟨j, hj, rfl⟩ := id hr
    rw [nI_clamp (by omega), gr.2.1.1.2 j hj]
    refine ⟨(vp_nI (by omega)).mpr (by rw [hN.1]; exact hj), ?_⟩
    unfold wX5_root wX5_root_b13
    refine M_rt hr ⟨fun q => (by simp at q), fun _ => ?_⟩
    rintro S4 rfl
    rw [thr0, ← nI_0, set_thr, nI_clamp (by omega)]
    refine ⟨fun _ => ⟨(vp_nI (by omega)).mpr hj, ?_⟩, fun q => absurd (nI_le (Nat.le_refl 0) (by omega)) q⟩
    exact ⟨rfl, fun _ => rfl, PV_thr gi gr h29⟩
  · refine L_rf hr ⟨rfl, ?_⟩
    unfold wX5_root wX5_root_b13
    refine M_rf hr ⟨fun _ => ?_, fun q => (by simp at q)⟩
    rintro S4 rfl
    rw [thr0]
    refine ⟨fun q => absurd q (by decide), fun _ => ⟨rfl, fun q => absurd q (by decide), PV_thrI (t := 1) gi gr h29⟩⟩
/-- collect -/
theorem O_collect (hN : LN n s b) {T : Nat → Nat → Int32} (h : PV s b S T) (a1 : Int32) : op_collect n a1 S T (PV s b) := by
  obtain ⟨α, z, rfl, gi, gr, h29⟩ := h
  unfold op_collect wL_collect wX4_collect
  have out : PV s b S (up2 (nR α) 0 0 (nI 1)) := PV_thrI gi gr h29
  by_cases hr : IX 3 a1
  · obtain ⟨j, hj, rfl⟩ := id hr
    obtain ⟨α', z', S', r, k1, k2, k3, k4, k5⟩ := J_gather (α := upN α 0 0 0) hN hj gi gr
    refine ⟨fun q => absurd q (nI_pos (by omega)), fun _ => ⟨fun _ => k5 _ ?_, fun q => absurd (by rw [show (3 : Int32) = nI 3 from rfl, nI_ltI (by omega) (by omega)]; exact hj) q⟩⟩
    unfold wX5_collect wX5_collect_b15
    refine M_in_t (k := 2) (by omega) hr ⟨fun q => (by simp at q), fun _ => ?_⟩
    rintro S4 rfl
    rw [thr0, ← nI_0, set_thr]
    refine ⟨fun _ => k4 _ ?_, fun q => absurd (nI_le (Nat.le_refl 0) (by omega)) q⟩
    refine ⟨?_, fun _ => rfl, α', z', rfl, k1, k2, ?_⟩
    · rw [nR_at, k3.1]
      rfl
    · rw [k3.2.2]
      exact h29
  · have md : wX5_collect a1 (nR α) (fun b1 T1 => wX5_thrown T1 (fun th T2 => th = 1 ∧ ((1 : Int32) = 0 → none = some b1) ∧ PV s b S T2)) := by
      unfold wX5_collect wX5_collect_b15
      refine M_in_f (k := 2) (by omega) hr ⟨fun _ => ?_, fun q => (by simp at q)⟩
      rintro S4 rfl
      rw [thr0]
      exact ⟨fun q => absurd q (by decide), fun _ => ⟨rfl, fun q => absurd q (by decide), out⟩⟩
    refine ⟨fun _ => ⟨rfl, md⟩, fun q0 => ⟨fun q1 => ?_, fun _ => ⟨rfl, md⟩⟩⟩
    obtain ⟨j, hj, rfl⟩ := nI_of q0
    rw [show (3 : Int32) = nI 3 from rfl, nI_ltI (by omega) (by omega)] at q1
    exact absurd ⟨j, q1, rfl⟩ hr
/-- weak -/
theorem O_weak (hN : LN n s b) {T : Nat → Nat → Int32} (h : PV s b S T) (a1 a2 : Int32) : op_weak n a1 a2 S T (PV s b) := by
  obtain ⟨α, z, rfl, gi, gr, h29⟩ := h
  unfold op_weak wL_weak wX4_weak
  have bad : (¬ IX 8 a1 ∨ ¬ IX 16 a2) → wX5_weak a1 a2 (nR α) (fun b1 T1 => wX5_thrown T1 (fun th T2 => th = 1 ∧ ((1 : Int32) = 0 → none = some b1) ∧ PV s b S T2)) := fun hb => by
    have k : wX5_weak_b23 a1 a2 1 (nR α) (fun b1 T1 => wX5_thrown T1 (fun th T2 => th = 1 ∧ ((1 : Int32) = 0 → none = some b1) ∧ PV s b S T2)) := by
      unfold wX5_weak_b23
      rintro S4 rfl
      rw [thr0]
      exact ⟨fun q => absurd q (by decide), fun _ => ⟨rfl, fun q => absurd q (by decide), PV_thrI (t := 1) gi gr h29⟩⟩
    unfold wX5_weak
    by_cases h1 : IX 8 a1
    · refine M_in_t (k := 7) (by omega) h1 ⟨fun q => (by simp at q), fun _ => ?_⟩
      exact M_rf (hb.elim (fun q => absurd h1 q) (fun q => q)) ⟨fun _ => k, fun q => (by simp at q)⟩
    · exact M_in_f (k := 7) (by omega) h1 ⟨fun _ => k, fun q => (by simp at q)⟩
  by_cases h1 : IX 8 a1
  · refine L_wt h1 ?_
    by_cases h2 : IX 16 a2
    · refine L_rt h2 ?_
      obtain ⟨i, hi, rfl⟩ := id h1
      obtain ⟨j, hj, rfl⟩ := id h2
      rw [nI_clamp (by omega), nI_clamp (by omega), gr.2.1.1.2 j hj, gr.2.1.2.2.1.2 i hi]
      have v18 : vp_in (nI i) (n 18) := (vp_nI (by omega)).mpr (by rw [hN.2.2.1]; exact hi)
      refine ⟨v18, (vp_nI (by omega)).mpr (by rw [hN.1]; exact hj), v18, ?_⟩
      rintro S5 rfl
      obtain ⟨c1, c2⟩ := set8 (α := upN α 0 0 0) (k := i) (v := α 6 j) gi gr (gi.2.2.2.2.2.1.1 j hj)
      unfold wX5_weak wX5_weak_b23
      refine M_in_t (k := 7) (by omega) h1 ⟨fun q => (by simp at q), fun _ => ?_⟩
      refine M_rt h2 ⟨fun q => (by simp at q), fun _ => ?_⟩
      rintro S4 rfl
      rw [thr0, ← nI_0, set_thr, nI_clamp (by omega), nI_clamp (by omega)]
      have v8 : vp_in (nI i) 8 := (vp_nI (by omega)).mpr hi
      refine ⟨fun _ => ⟨v8, (vp_nI (by omega)).mpr hj, v8, ?_⟩, fun q => absurd (nI_le (Nat.le_refl 0) (by omega)) q⟩
      rintro S10 rfl
      rw [nR_at, nR_at, up2_nR]
      exact ⟨rfl, fun _ => rfl, _, z, rfl, c1, c2, h29⟩
    · exact L_rf h2 ⟨rfl, bad (Or.inr h2)⟩
  · exact L_wf h1 ⟨rfl, bad (Or.inl h1)⟩
end POP
