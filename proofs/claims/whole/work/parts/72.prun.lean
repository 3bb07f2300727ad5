/-! THE PURE PART: NEW; one step; the machine's run -/
section PO13
variable {s b : Nat} {α : Nat → Nat → Nat} {z : Nat → Nat} {S T : Nat → Nat → Int32} {n : Nat → Nat} {a b' c : Int32} {p : Nat}
def NWf (n : Nat → Nat) (s b : Nat) (α : Nat → Nat → Nat) (S : Nat → Nat → Int32) (W5 : (Int32 → (Nat → Nat → Int32) → Prop) → Prop) (W2 : (Int32 → (Nat → Nat → Int32) → Prop) → Prop) : Prop := ∃ α2 z2 S2, Gi s b 0 α2 z2 0 0 (fun _ => True) ∧ RS s 0 α2 z2 S2 ∧ α2 0 0 = α 0 0 ∧ α2 0 29 = α 0 29 ∧ (∀ Q : Int32 → (Nat → Nat → Int32) → Prop, Q (-1) (nR α2) → W5 Q) ∧ (∀ Q : Int32 → (Nat → Nat → Int32) → Prop, Q 5 S2 → W2 Q)
def NWc (n : Nat → Nat) (s b : Nat) (α : Nat → Nat → Nat) (S : Nat → Nat → Int32) (W5 : (Int32 → (Nat → Nat → Int32) → Prop) → Prop) (W2 : (Int32 → (Nat → Nat → Int32) → Prop) → Prop) : Prop := ∃ α2 z2 S2 r, Gi s b 0 α2 z2 0 0 (fun _ => True) ∧ RS s 0 α2 z2 S2 ∧ α2 0 0 = α 0 0 ∧ α2 0 29 = α 0 29 ∧ r ≤ α 0 29 ∧ (∀ Q : Int32 → (Nat → Nat → Int32) → Prop, (∀ T', up2 T' 0 26 (T' 0 26 + 1) = nR α2 → Q (nI r) T') → W5 Q) ∧ (∀ Q : Int32 → (Nat → Nat → Int32) → Prop, Q (-1) (up2 S2 2 4 (nI r)) → W2 Q)
theorem change_no {i : Nat} (hi : i < 15) (h : i < 2 ∨ 10 ≤ i) {Q : Unit → (Nat → Nat → Int32) → Prop} (hQ : Q () S) : wX2_change n (nI i) a b' c S Q :=
  ⟨fun q => absurd q (li_ne (k := 2) hi (by omega) (by omega)), fun q => absurd q (li_ne (k := 3) hi (by omega) (by omega)), fun q => absurd q (li_ne (k := 4) hi (by omega) (by omega)), fun q => absurd q (li_ne (k := 5) hi (by omega) (by omega)), fun q => absurd q (li_ne (k := 6) hi (by omega) (by omega)), fun q => absurd q (li_ne (k := 7) hi (by omega) (by omega)), fun q => absurd q (li_ne (k := 8) hi (by omega) (by omega)), fun q => absurd q (li_ne (k := 9) hi (by omega) (by omega)), fun _ _ _ _ _ _ _ _ => hQ⟩
theorem D_new {i : Nat} {ke : Int32} (hN : LN n s b) (gi : Gi s b 0 α z 0 0 (fun _ => True)) (gr : RS s 0 α z S) (hp : p < α 0 29) (h27 : α 0 27 = p) (h29 : α 0 29 ≤ 64) (hi : i = 1 ∨ i = 14) (ha : IX 16 a) (hb : IX 7 b') (hc : IX 8 c) : NWf n s b α S (fun Q => wX5_does_b97 (nI p) (nI i) a b' c (nI (p + 1)) ke (nR α 17 c.toNatClampNeg) b' (nR α) Q) (fun Q => wX2_step_b89 n c b' a (nI i) ke (S 28 c.toNatClampNeg) b' S Q) ∨ NWc n s b α S (fun Q => wX5_does_b97 (nI p) (nI i) a b' c (nI (p + 1)) ke (nR α 17 c.toNatClampNeg) b' (nR α) Q) (fun Q => wX2_step_b89 n c b' a (nI i) ke (S 28 c.toNatClampNeg) b' S Q) := by
  have hs1 := gi.1.1.2.1
  have rm := gr.2.2.2.2.2
  obtain ⟨k, hk, rfl⟩ := ha
  obtain ⟨m, hm, rfl⟩ := hb
  obtain ⟨q, hq, rfl⟩ := hc
  obtain ⟨α', z', S', r, i1, i2, i3, i4, i5, i6⟩ := J_object (n0 := m) (lab := α 17 q) (a3 := ke) hN (by omega) gi gr
  have hrl : r < 1793 := by
    rcases i6 with g | g
    · omega
    · have := U_lt i1.1 g.1.1
      omega
  have v16' : vp_in (nI k) 16 := (vp_nI (by omega)).mpr hk
  have e1 : S 28 (nI q).toNatClampNeg = nI (α 17 q) := by
    rw [nI_clamp (by omega)]
    exact rm.2.2.2.2 q hq
  have e2 : nR α 17 (nI q).toNatClampNeg = nI (α 17 q) := by
    rw [nI_clamp (by omega)]
    rfl
  rw [e1, e2]
  unfold wX5_does_b97 wX2_step_b89 wX5_does_b123
  by_cases hr : r = 0
  · refine Or.inl ⟨α', z', S', i1, i2, i3.1, i3.2.2, fun Q hQ => i4 _ ⟨fun _ => ⟨v16', v16', ?_⟩, fun g => absurd (by rw [hr]; rfl) g⟩, fun Q hQ => i5 _ ⟨fun _ => hQ, fun g => absurd (by rw [hr]; rfl) g⟩⟩
    rw [nI_clamp (show k < 2 ^ 31 by omega), nR_at, up2_nR, upN_same]
    rintro S48 rfl
    exact ⟨fun _ => hQ, fun g => absurd (by rw [hr]; rfl) g⟩
  · have hr' : VV s 0 α' z' r := i6.elim (fun g => absurd g hr) (fun g => Or.inr (Or.inl g.1))
    obtain ⟨c1, c2⟩ := set6 (k := k) i1 i2 hr'
    have c3 := sA_Gi c1
    have c4 := sA_RS c2
    have h25 : up2 S' 16 k (nI r) 2 5 = nI (upN α' 6 k r 0 26) := c2.2.2.2.2.2.2.2.1
    have h24 : up2 S' 16 k (nI r) 2 4 = nI p := by
      rw [c2.2.2.2.2.2.2.1, ← h27]
      show nI (α' 0 27) = _
      rw [i3.2.1]
    refine Or.inr ⟨_, z', _, p + 1, c3, c4, i3.1, i3.2.2, by omega, fun Q hQ => i4 _ ⟨fun g => absurd g (nI_ne0 (by omega) (by omega)), fun _ => ⟨v16', ?_⟩⟩, fun Q hQ => i5 _ ⟨fun g => absurd g (nI_ne0 (by omega) (by omega)), fun _ => ⟨(vp_nI (by omega)).mpr (by rw [hN.1]; exact hk), ?_⟩⟩⟩
    · rw [nI_clamp (show k < 2 ^ 31 by omega), up2_nR]
      rintro S48 rfl
      exact ⟨fun g => absurd g (nI_ne0 (by omega) (by omega)), fun _ => hQ _ st_0⟩
    · rw [nI_clamp (show k < 2 ^ 31 by omega)]
      rintro S24 rfl
      refine C_b115 (α := upN α' 6 k r) (by omega) (by omega) h25 ?_
      refine change_no (by omega) (by omega) ?_
      refine go_next (i := i) (p := p) (by omega) (by omega) (by exact h24) ?_
      rintro S19 rfl
      exact hQ
theorem C_step {i : Nat} (hN : LN n s b) (h24 : S 2 4 = nI p) (hp : p < 64) (ew : S 27 (4 * p) = nI i) (ea : S 27 (4 * p + 1) = a) (eb : S 27 (4 * p + 2) = b') (ec : S 27 (4 * p + 3) = c) (hi : i < 15) {Q : Int32 → (Nat → Nat → Int32) → Prop} (h1 : (i = 1 ∨ i = 14) → wX2_step_b66 n c b' a (nI i) S Q) (h2 : ¬ (i = 1 ∨ i = 14) → wX2_step_b115 n c b' a (nI i) S Q) : wX2_step n S Q := by
  have n27 : n 27 = 256 := hN.2.2.2.2.2.2.2.2.2.2.2.1
  have v0 : vp_in (nI (4 * p)) (n 27) := (vp_nI (by omega)).mpr (by omega)
  have v1 : vp_in (nI (4 * p + 1)) (n 27) := (vp_nI (by omega)).mpr (by omega)
  have v2 : vp_in (nI (4 * p + 2)) (n 27) := (vp_nI (by omega)).mpr (by omega)
  have v3 : vp_in (nI (4 * p + 3)) (n 27) := (vp_nI (by omega)).mpr (by omega)
  have e4 : (4 * (S 2 4) : Int32) = nI (4 * p) := by rw [h24, show (4 : Int32) = nI 4 from rfl, pk_mul]
  have e41 : (nI (4 * p) + 1 : Int32) = nI (4 * p + 1) := nI_1 _
  have e42 : (nI (4 * p) + 2 : Int32) = nI (4 * p + 2) := nI_add (4 * p) 2
  have e43 : (nI (4 * p) + 3 : Int32) = nI (4 * p + 3) := nI_add (4 * p) 3
  have c0 : (nI (4 * p)).toNatClampNeg = 4 * p := nI_clamp (by omega)
  have c1 : (nI (4 * p + 1)).toNatClampNeg = 4 * p + 1 := nI_clamp (by omega)
  have c2 : (nI (4 * p + 2)).toNatClampNeg = 4 * p + 2 := nI_clamp (by omega)
  have c3 : (nI (4 * p + 3)).toNatClampNeg = 4 * p + 3 := nI_clamp (by omega)
  unfold wX2_step
  rw [e4, e41, e42, e43, c0, c1, c2, c3, ew, ea, eb, ec]
  refine ⟨v0, ?_⟩
  rintro x1 rfl
  refine ⟨v1, ?_⟩
  rintro x3 rfl
  refine ⟨v2, ?_⟩
  rintro x5 rfl
  refine ⟨v3, ?_⟩
  rintro x7 rfl
  refine ⟨fun q => h1 (Or.inl ((nI_eq (b := 1) (by omega) (by omega)).mp q)), fun q => ⟨fun q2 => h1 (Or.inr ((nI_eq (b := 14) (by omega) (by omega)).mp q2)), fun q2 => h2 (fun q3 => ?_)⟩⟩
  rcases q3 with q3 | q3
  · exact q (by rw [q3]; rfl)
  · exact q2 (by rw [q3]; rfl)
theorem J_step {i : Nat} (hN : LN n s b) (gi : Gi s b 0 α z 0 0 (fun _ => True)) (gr : RS s 0 α z S) (hp : p < α 0 29) (h27 : α 0 27 = p) (h29 : α 0 29 ≤ 64) (ew : S 27 (4 * p) = nI i) (ea : S 27 (4 * p + 1) = a) (eb : S 27 (4 * p + 2) = b') (ec : S 27 (4 * p + 3) = c) (hi : i < 15) (hi0 : i ≠ 0) (hR : RTn (α 0 29) a b' c i) (hF : HF α a b' c i) : NWf n s b α S (fun Q => wX5_does (nI p) (nI i) a b' c (nR α) Q) (fun Q => wX2_step n S Q) ∨ NWc n s b α S (fun Q => wX5_does (nI p) (nI i) a b' c (nR α) Q) (fun Q => wX2_step n S Q) := by
  have rm := gr.2.2.2.2.2
  have h24 : S 2 4 = nI p := by rw [← h27]; exact rm.2.1
  have n28 : n 28 = 8 := hN.2.2.2.2.2.2.2.2.2.2.2.2
  by_cases h : i = 1 ∨ i = 14
  · have hR' : IX 16 a ∧ IX 7 b' ∧ IX 8 c := by
      rcases h with rfl | rfl
      · exact hR
      · exact hR
    have vc : vp_in c 8 := by
      obtain ⟨q, hq, rfl⟩ := hR'.2.2
      exact (vp_nI (by omega)).mpr hq
    have key : ∀ ke : Int32, (i = 1 ∧ ke = 0) ∨ (i = 14 ∧ ke = 1) → (∀ Q, wX5_does_b97 (nI p) (nI i) a b' c (nI (p + 1)) ke (nR α 17 c.toNatClampNeg) b' (nR α) Q → wX5_does (nI p) (nI i) a b' c (nR α) Q) ∧ (∀ Q, wX2_step_b89 n c b' a (nI i) ke (S 28 c.toNatClampNeg) b' S Q → wX2_step n S Q) := by
      intro ke hke
      refine ⟨fun Q hQ => ?_, fun Q hQ => C_step hN h24 (by omega) ew ea eb ec hi (fun _ => ?_) (fun q => absurd h q)⟩
      · unfold wX5_does
        rintro x1 rfl
        rw [nI_1]
        rcases hke with ⟨rfl, rfl⟩ | ⟨rfl, rfl⟩
        · exact ⟨fun _ => ⟨vc, fun q => absurd q (by decide), fun _ => hQ⟩, fun q => absurd q (by decide), fun q => absurd q (by decide), fun q => absurd q (by decide), fun q => absurd q (by decide), fun q => absurd q (by decide), fun q => absurd q (by decide), fun q => absurd q (by decide), fun q => absurd q (by decide), fun q => absurd q (by decide), fun q => absurd q (by decide), fun q => absurd q (by decide), fun q => absurd q (by decide), fun q => absurd q (by decide), fun q => absurd rfl q⟩
        · exact ⟨fun q => absurd q (by decide), fun q => absurd q (by decide), fun q => absurd q (by decide), fun q => absurd q (by decide), fun q => absurd q (by decide), fun q => absurd q (by decide), fun q => absurd q (by decide), fun q => absurd q (by decide), fun q => absurd q (by decide), fun q => absurd q (by decide), fun q => absurd q (by decide), fun q => absurd q (by decide), fun q => absurd q (by decide), fun _ => ⟨vc, fun _ => hQ, fun q => absurd rfl q⟩, fun _ _ _ _ _ _ _ _ _ _ _ _ _ q => absurd rfl q⟩
      · unfold wX2_step_b66
        rw [n28]
        rcases hke with ⟨rfl, rfl⟩ | ⟨rfl, rfl⟩
        · exact ⟨vc, fun q => absurd q (by decide), fun _ => hQ⟩
        · exact ⟨vc, fun _ => hQ, fun q => absurd rfl q⟩
    obtain ⟨ke, hke⟩ : ∃ ke : Int32, (i = 1 ∧ ke = 0) ∨ (i = 14 ∧ ke = 1) := by
      rcases h with h | h
      · exact ⟨0, Or.inl ⟨h, rfl⟩⟩
      · exact ⟨1, Or.inr ⟨h, rfl⟩⟩
    obtain ⟨k1, k2⟩ := key ke hke
    rcases D_new (i := i) (ke := ke) hN gi gr hp h27 h29 h hR'.1 hR'.2.1 hR'.2.2 with ⟨α2, z2, S2, g1, g2, g3, g4, g5, g6⟩ | ⟨α2, z2, S2, r, g1, g2, g3, g4, g5, g6, g7⟩
    · exact Or.inl ⟨α2, z2, S2, g1, g2, g3, g4, fun Q hQ => k1 Q (g5 Q hQ), fun Q hQ => k2 Q (g6 Q hQ)⟩
    · exact Or.inr ⟨α2, z2, S2, r, g1, g2, g3, g4, g5, fun Q hQ => k1 Q (g6 Q hQ), fun Q hQ => k2 Q (g7 Q hQ)⟩
  · obtain ⟨α2, z2, S2, r, g1, g2, g3, g4, g5, g6, g7⟩ := J_do hN gi gr hp h27 h29 (by omega) (by omega) hR hF
    exact Or.inr ⟨α2, z2, S2, r, g1, g2, g3, g4, g5, g6, fun Q hQ => C_step hN h24 (by omega) ew ea eb ec hi (fun q => absurd q h) (fun _ => g7 Q hQ)⟩
-- endBefore
theorem E_more {L : Nat} {y : Int32} (h24 : S 2 4 = nI p) (h23 : S 2 3 = nI L) (hp : p < 2 ^ 31) (hL : L ≤ p) {Q : Int32 → (Nat → Nat → Int32) → Prop} (hQ : Q 0 S) : wX2_endBefore n y S Q := by
  unfold wX2_endBefore
  rw [h24, h23]
  exact ⟨fun q => absurd q (nI_nlt hL hp), fun _ => hQ⟩
theorem E_steps {L : Nat} (h24 : S 2 4 = nI p) (h23 : S 2 3 = nI L) (hp : p < L) (hL : L ≤ 64) {Q : Int32 → (Nat → Nat → Int32) → Prop} (hQ : Q 6 S) : wX2_endBefore n 1 S Q := by
  unfold wX2_endBefore
  refine ⟨fun _ => ⟨fun q => absurd q (by decide), fun _ => hQ⟩, fun q => absurd ?_ q⟩
  rw [h24, h23]
  exact nI_lt hp (by omega)
theorem E_0 {L : Nat} {w : Int32} (hN : LN n s b) (h24 : S 2 4 = nI p) (h23 : S 2 3 = nI L) (hp : p < L) (hL : L ≤ 64) (ew : S 27 (4 * p) = w) (ea : S 27 (4 * p + 1) = a) (eb : S 27 (4 * p + 2) = b') (ec : S 27 (4 * p + 3) = c) {Q : Int32 → (Nat → Nat → Int32) → Prop} (h1 : ¬ RT L w a b' c → Q 1 S) (h2 : RT L w a b' c → EB n S Q) : wX2_endBefore n 0 S Q := by
  have n27 : n 27 = 256 := hN.2.2.2.2.2.2.2.2.2.2.2.1
  unfold wX2_endBefore
  refine ⟨fun _ => ⟨fun _ => ?_, fun q => absurd rfl q⟩, fun q => absurd ?_ q⟩
  · exact C_wrong h24 h23 (by omega) hL n27 ew ea eb ec (fun h => ⟨fun _ => h2 h, fun q => (by simp at q)⟩) (fun h => ⟨fun q => (by simp at q), fun _ => h1 h⟩)
  · rw [h24, h23]
    exact nI_lt hp (by omega)
-- the loops' turns
theorem C_done {f r : Nat} {a1 a2 x : Int32} (hr : r < 7) {Q : Int32 → (Nat → Nat → Int32) → Prop} {QX : String → (Nat → Nat → Int32) → Prop} (hQ : Q (nI r) S) : wX4_run_b55 n a1 a2 (f + 1) x (nI r) S Q QX := by
  rw [wX4_run_b55]
  exact ⟨fun _ => hQ, fun _ => ⟨fun q => absurd q (nI_nm1 (by omega)), fun _ => hQ⟩⟩
theorem C_end {f r k t : Nat} {a1 : Int32} (hr : r < 7) (hk : k ≤ t) (ht : t ≤ 400) (he : ∀ y : Int32, (y = 1 ∧ k = t) ∨ (y = 0 ∧ k ≠ t) → ∀ Q : Int32 → (Nat → Nat → Int32) → Prop, Q (nI r) S → wX2_endBefore n y S Q) {Q : Int32 → (Nat → Nat → Int32) → Prop} {QX : String → (Nat → Nat → Int32) → Prop} (hQ : Q (nI r) S) : wX4_run_b55 n a1 (nI t) (f + 2) (nI k) (-1) S Q QX := by
  rw [wX4_run_b55]
  unfold wX4_run_b81 wX4_run_b98
  refine ⟨fun q => absurd q (nI_nlt hk (by omega)), fun _ => ⟨fun _ => ⟨fun q => ?_, fun q => ?_⟩, fun q => absurd rfl q⟩⟩
  · refine he 1 (Or.inl ⟨rfl, (nI_eq (by omega) (by omega)).mp q⟩) _ ⟨fun q => absurd q (nI_nm1 (by omega)), fun _ => ?_⟩
    rintro x18 rfl
    exact C_done hr hQ
  · refine he 0 (Or.inr ⟨rfl, fun e => q (by rw [e])⟩) _ ⟨fun q => absurd q (nI_nm1 (by omega)), fun _ => ?_⟩
    rintro x18 rfl
    exact C_done hr hQ
theorem C_go {f k t : Nat} {a1 : Int32} (hk : k < t) (ht : t ≤ 400) {Q : Int32 → (Nat → Nat → Int32) → Prop} {QX : String → (Nat → Nat → Int32) → Prop} (h : wX2_endBefore n 0 S (fun r13 S14 => (r13 = (-1 : Int32) → wX2_step n S14 (fun r16 S17 => wX4_run_b55 n a1 (nI t) f (nI (k + 1)) r16 S17 Q QX)) ∧ (¬ r13 = (-1 : Int32) → wX4_run_b55 n a1 (nI t) f (nI (k + 1)) r13 S14 Q QX))) : wX4_run_b55 n a1 (nI t) (f + 1) (nI k) (-1) S Q QX := by
  rw [wX4_run_b55]
  unfold wX4_run_b81 wX4_run_b98
  rw [nI_1]
  refine ⟨fun q => absurd q (nI_nlt (by omega) (by omega)), fun _ => ⟨fun _ => ⟨fun q => ?_, fun _ => ?_⟩, fun q => absurd rfl q⟩⟩
  · have := (nI_eq (by omega) (by omega)).mp q
    omega
  · have e : ∀ (r : Int32) (S17 : Nat → Nat → Int32), (∀ x18 : Int32, x18 = nI (k + 1) → wX4_run_b55 n a1 (nI t) f x18 r S17 Q QX) = wX4_run_b55 n a1 (nI t) f (nI (k + 1)) r S17 Q QX := fun r S17 => propext ⟨fun h => h _ rfl, fun h x e => by rw [e]; exact h⟩
    simp only [e]
    exact h
def MH (a1 a2 : Int32) (f : Nat) (k w a b' c : Int32) (Q : Int32 → (Nat → Nat → Int32) → Prop) (S24 : Nat → Nat → Int32) : Prop := wX5_hindered w a b' c S24 (fun r26 S27 => (r26 ≤ 0 → (w = 0 → ∀ S30, S30 = up2 S27 0 26 ((S27 0 26) + 1) → Q 0 S30) ∧ (¬ w = 0 → wX5_does (S27 0 27) w a b' c S27 (fun r32 S33 => (r32 = (-1 : Int32) → Q 5 S33) ∧ (¬ r32 = (-1 : Int32) → ∀ S35, S35 = up2 S33 0 26 ((S33 0 26) + 1) → ∀ S37, S37 = up2 S35 0 27 r32 → ∀ x39 : Int32, x39 = k + 1 → wX5_run_b48 a1 a2 f x39 S37 Q)))) ∧ (¬ r26 ≤ 0 → Q r26 S27))
theorem M_iter {f k t : Nat} {a1 : Int32} (hp : α 0 27 < α 0 29) (h29 : α 0 29 ≤ 64) (hk : k < t) (ht : t ≤ 400) {Q : Int32 → (Nat → Nat → Int32) → Prop} (h1 : ¬ RT (α 0 29) (nI (α 18 (4 * α 0 27))) (nI (α 18 (4 * α 0 27 + 1))) (nI (α 18 (4 * α 0 27 + 2))) (nI (α 18 (4 * α 0 27 + 3))) → Q 1 (nR α)) (h2 : RT (α 0 29) (nI (α 18 (4 * α 0 27))) (nI (α 18 (4 * α 0 27 + 1))) (nI (α 18 (4 * α 0 27 + 2))) (nI (α 18 (4 * α 0 27 + 3))) → MH a1 (nI t) f (nI k) (nI (α 18 (4 * α 0 27))) (nI (α 18 (4 * α 0 27 + 1))) (nI (α 18 (4 * α 0 27 + 2))) (nI (α 18 (4 * α 0 27 + 3))) Q (nR α)) : wX5_run_b48 a1 (nI t) (f + 1) (nI k) (nR α) Q := by
  have e4 : (4 * nR α 0 27 : Int32) = nI (4 * α 0 27) := by rw [nR_at, show (4 : Int32) = nI 4 from rfl, pk_mul]
  have e41 : (nI (4 * α 0 27) + 1 : Int32) = nI (4 * α 0 27 + 1) := nI_1 _
  have e42 : (nI (4 * α 0 27) + 2 : Int32) = nI (4 * α 0 27 + 2) := nI_add (4 * α 0 27) 2
  have e43 : (nI (4 * α 0 27) + 3 : Int32) = nI (4 * α 0 27 + 3) := nI_add (4 * α 0 27) 3
  have c0 : (nI (4 * α 0 27)).toNatClampNeg = 4 * α 0 27 := nI_clamp (by omega)
  have c1 : (nI (4 * α 0 27 + 1)).toNatClampNeg = 4 * α 0 27 + 1 := nI_clamp (by omega)
  have c2 : (nI (4 * α 0 27 + 2)).toNatClampNeg = 4 * α 0 27 + 2 := nI_clamp (by omega)
  have c3 : (nI (4 * α 0 27 + 3)).toNatClampNeg = 4 * α 0 27 + 3 := nI_clamp (by omega)
  rw [wX5_run_b48]
  rw [e4, e41, e42, e43, c0, c1, c2, c3]
  refine ⟨fun q => absurd ((nI_leI (by omega) (by omega)).mp q) (by omega), fun _ => ⟨fun q => ?_, fun _ => ⟨(vp_nI (by omega)).mpr (by omega), ?_⟩⟩⟩
  · have := (nI_eq (by omega) (by omega)).mp q
    omega
  rintro x15 rfl
  refine ⟨(vp_nI (by omega)).mpr (by omega), ?_⟩
  rintro x17 rfl
  refine ⟨(vp_nI (by omega)).mpr (by omega), ?_⟩
  rintro x19 rfl
  refine ⟨(vp_nI (by omega)).mpr (by omega), ?_⟩
  rintro x21 rfl
  exact M_right h29 (fun h => ⟨fun q => (by simp at q), fun _ => h2 h⟩) (fun h => ⟨fun _ => h1 h, fun q => (by simp at q)⟩)
theorem L_run (hN : LN n s b) {t : Nat} (ht : t ≤ 400) {a1 : Int32} : ∀ m k (α : Nat → Nat → Nat) (z : Nat → Nat) (S : Nat → Nat → Int32), k + m = t → Gi s b 0 α z 0 0 (fun _ => True) → RS s 0 α z S → α 0 0 = 0 → α 0 27 ≤ α 0 29 → α 0 29 ≤ 64 → ∃ α' z' S' r, Gi s b 0 α' z' 0 0 (fun _ => True) ∧ RS s 0 α' z' S' ∧ α' 0 0 = 0 ∧ α' 0 29 ≤ 64 ∧ (∀ Q : Int32 → (Nat → Nat → Int32) → Prop, Q (nI r) (nR α') → wX5_run_b48 a1 (nI t) (m + 1) (nI k) (nR α) Q) ∧ (∀ (Q : Int32 → (Nat → Nat → Int32) → Prop) (QX : String → (Nat → Nat → Int32) → Prop), Q (nI r) S' → wX4_run_b55 n a1 (nI t) (m + 2) (nI k) (-1) S Q QX) := by
  intro m
  induction m with
  | zero =>
    intro k α z S hk gi gr h0 h27 h29
    have rm := gr.2.2.2.2.2
    have h24 : S 2 4 = nI (α 0 27) := rm.2.1
    have h23 : S 2 3 = nI (α 0 29) := rm.1
    have hkt : k = t := by omega
    by_cases hp : α 0 29 ≤ α 0 27
    · refine ⟨α, z, S, 0, gi, gr, h0, h29, fun Q hQ => ?_, fun Q QX hQ => C_end (r := 0) (by omega) (by omega) ht (fun y _ Q hQ => E_more h24 h23 (by omega) hp hQ) hQ⟩
      rw [wX5_run_b48]
      exact ⟨fun _ => hQ, fun q => absurd (nI_le hp (by omega)) q⟩
    · refine ⟨α, z, S, 6, gi, gr, h0, h29, fun Q hQ => ?_, fun Q QX hQ => C_end (by omega) (by omega) ht (fun y hy Q hQ => ?_) hQ⟩
      · rw [wX5_run_b48]
        exact ⟨fun q => absurd ((nI_leI (by omega) (by omega)).mp q) hp, fun _ => ⟨fun _ => hQ, fun q => absurd (by rw [hkt]) q⟩⟩
      · rcases hy with ⟨rfl, -⟩ | ⟨-, hy⟩
        · exact E_steps h24 h23 (by omega) h29 hQ
        · exact absurd hkt hy
  | succ m ih =>
    intro k α z S hk gi gr h0 h27 h29
    have rm := gr.2.2.2.2.2
    have h24 : S 2 4 = nI (α 0 27) := rm.2.1
    have h23 : S 2 3 = nI (α 0 29) := rm.1
    have hkt : k < t := by omega
    by_cases hp : α 0 29 ≤ α 0 27
    · refine ⟨α, z, S, 0, gi, gr, h0, h29, fun Q hQ => ?_, fun Q QX hQ => C_end (r := 0) (by omega) (by omega) ht (fun y _ Q hQ => E_more h24 h23 (by omega) hp hQ) hQ⟩
      rw [wX5_run_b48]
      exact ⟨fun _ => hQ, fun q => absurd (nI_le hp (by omega)) q⟩
    have hp' : α 0 27 < α 0 29 := by omega
    have ew : S 27 (4 * α 0 27) = nI (α 18 (4 * α 0 27)) := rm.2.2.2.1 _ (by omega)
    have ea : S 27 (4 * α 0 27 + 1) = nI (α 18 (4 * α 0 27 + 1)) := rm.2.2.2.1 _ (by omega)
    have eb : S 27 (4 * α 0 27 + 2) = nI (α 18 (4 * α 0 27 + 2)) := rm.2.2.2.1 _ (by omega)
    have ec : S 27 (4 * α 0 27 + 3) = nI (α 18 (4 * α 0 27 + 3)) := rm.2.2.2.1 _ (by omega)
    by_cases hRT : RT (α 0 29) (nI (α 18 (4 * α 0 27))) (nI (α 18 (4 * α 0 27 + 1))) (nI (α 18 (4 * α 0 27 + 2))) (nI (α 18 (4 * α 0 27 + 3)))
    · obtain ⟨i, hi, hw, hR⟩ := id hRT
      have ew' := ew.trans hw
      obtain ⟨h, h7, hF, k1, k2⟩ := J_hind hN gi gr h24 (by omega) ew' ea eb ec hi hR
      by_cases hh : h = 0
      · have hF' := hF hh
        by_cases hi0 : i = 0
        · -- STOP
          refine ⟨sA α, z, sS α S, 0, sA_Gi gi, sA_RS gr, h0, h29, fun Q hQ => M_iter hp' h29 hkt ht (fun q => absurd hRT q) (fun _ => ?_), fun Q QX hQ => C_go hkt ht (E_0 hN h24 h23 hp' h29 ew ea eb ec (fun q => absurd hRT q) (fun _ => k2 _ (fun _ => ⟨fun _ => ?_, fun q => absurd rfl q⟩) (fun q => absurd hh q)))⟩
          · unfold MH
            rw [hw]
            refine k1 _ ⟨fun _ => ⟨fun _ => ?_, fun q => absurd (by rw [hi0]; rfl) q⟩, fun q => absurd (by rw [hh]; decide) q⟩
            rintro S30 rfl
            rw [st_0]
            exact hQ
          · refine C_step hN h24 (by omega) ew' ea eb ec hi (fun q => absurd q (by omega)) (fun _ => ?_)
            unfold wX2_step_b115
            rw [rm.2.2.1, nI_1]
            rintro S12 rfl
            exact ⟨fun _ => C_done (r := 0) (by omega) hQ, fun q => absurd (by rw [hi0]; rfl) q⟩
        · rcases J_step hN gi gr hp' rfl h29 ew' ea eb ec hi hi0 hR hF' with ⟨α2, z2, S2, g1, g2, g3, g4, g5, g6⟩ | ⟨α2, z2, S2, r, g1, g2, g3, g4, g5, g6, g7⟩
          · -- FULL
            refine ⟨α2, z2, S2, 5, g1, g2, g3.trans h0, by omega, fun Q hQ => M_iter hp' h29 hkt ht (fun q => absurd hRT q) (fun _ => ?_), fun Q QX hQ => C_go hkt ht (E_0 hN h24 h23 hp' h29 ew ea eb ec (fun q => absurd hRT q) (fun _ => k2 _ (fun _ => ⟨fun _ => g6 _ (C_done (r := 5) (by omega) hQ), fun q => absurd rfl q⟩) (fun q => absurd hh q)))⟩
            unfold MH
            rw [hw]
            refine k1 _ ⟨fun _ => ⟨fun q => absurd q (li_ne (k := 0) hi (by omega) hi0), fun _ => ?_⟩, fun q => absurd (by rw [hh]; decide) q⟩
            exact g5 _ ⟨fun _ => hQ, fun q => absurd rfl q⟩
          · -- goes on
            have f1 : Gi s b 0 (upN α2 0 27 r) z2 0 0 (fun _ => True) := g1
            have rm2 := g2.2.2.2.2.2
            have f2 : RS s 0 (upN α2 0 27 r) z2 (up2 S2 2 4 (nI r)) := by
              refine RS_MF (α := α2) (S := S2) ⟨fun k h0 h1 h2 => ?_, fun i h0 h1 h2 h3 => ?_⟩ (fun k h1 h2 h3 => ?_) g2 ?_
              · exact upN_row _ h0
              · exact upN_ne _ (Or.inr h2)
              · exact up2_row _ h1
              · exact ⟨rm2.1, rfl, rm2.2.2.1, rm2.2.2.2.1, rm2.2.2.2.2⟩
            obtain ⟨α', z', S', r', p1, p2, p3, p4, p5, p6⟩ := ih (k + 1) (upN α2 0 27 r) z2 (up2 S2 2 4 (nI r)) (by omega) f1 f2 (g3.trans h0) (by show r ≤ α2 0 29; omega) (by show α2 0 29 ≤ 64; omega)
            refine ⟨α', z', S', r', p1, p2, p3, p4, fun Q hQ => M_iter hp' h29 hkt ht (fun q => absurd hRT q) (fun _ => ?_), fun Q QX hQ => C_go hkt ht (E_0 hN h24 h23 hp' h29 ew ea eb ec (fun q => absurd hRT q) (fun _ => k2 _ (fun _ => ⟨fun _ => g7 _ (p6 Q QX hQ), fun q => absurd rfl q⟩) (fun q => absurd hh q)))⟩
            unfold MH
            rw [hw]
            refine k1 _ ⟨fun _ => ⟨fun q => absurd q (li_ne (k := 0) hi (by omega) hi0), fun _ => ?_⟩, fun q => absurd (by rw [hh]; decide) q⟩
            refine g6 _ (fun T' e => ⟨fun q => absurd q (nI_nm1 (by omega)), fun _ => ?_⟩)
            rintro S35 rfl S37 rfl x39 rfl
            rw [e, up2_nR, nI_1]
            exact p5 Q hQ
      · -- hindered
        refine ⟨α, z, S, h, gi, gr, h0, h29, fun Q hQ => M_iter hp' h29 hkt ht (fun q => absurd hRT q) (fun _ => ?_), fun Q QX hQ => C_end h7 (by omega) ht (fun y hy Q hQ => ?_) hQ⟩
        · unfold MH
          rw [hw]
          exact k1 _ ⟨fun q => absurd q (nI_nle (by omega) (by omega)), fun _ => hQ⟩
        · rcases hy with ⟨-, hy⟩ | ⟨rfl, -⟩
          · omega
          · exact E_0 hN h24 h23 hp' h29 ew ea eb ec (fun q => absurd hRT q) (fun _ => k2 _ (fun q => absurd q hh) (fun _ => hQ))
    · -- WRONG
      refine ⟨α, z, S, 1, gi, gr, h0, h29, fun Q hQ => M_iter hp' h29 hkt ht (fun _ => hQ) (fun q => absurd q hRT), fun Q QX hQ => C_end (by omega) (by omega) ht (fun y hy Q hQ => ?_) hQ⟩
      rcases hy with ⟨-, hy⟩ | ⟨rfl, -⟩
      · omega
      · exact E_0 hN h24 h23 hp' h29 ew ea eb ec (fun _ => hQ) (fun q => absurd q hRT)
theorem O_run (hN : LN n s b) {T : Nat → Nat → Int32} (h : PV s b S T) (a1 a2 : Int32) : op_run n a1 a2 S T (PV s b) := by
  obtain ⟨α, z, rfl, gi, gr, h29⟩ := h
  unfold op_run wL_run wX4_run
  have rm := gr.2.2.2.2.2
  have h23 : S 2 3 = nI (α 0 29) := rm.1
  have kx : ∀ t : Nat, t ≠ 0 → t < 3 → wX5_run_b29 a1 a2 (nI t) (nR α) (fun b1 T1 => wX5_thrown T1 (fun th T2 => th = nI t ∧ (nI t = 0 → none = some b1) ∧ PV s b S T2)) := fun t ht ht3 => by
    unfold wX5_run_b29
    rintro S4 rfl
    rw [thr0]
    exact ⟨fun q => absurd q (nI_nle (by omega) (by omega)), fun _ => ⟨rfl, fun q => absurd q (nI_ne0 (by omega) (by omega)), PV_thrI (t := t) gi gr h29⟩⟩
  rw [h23]
  by_cases h1 : IX (α 0 29 + 1) a1
  · obtain ⟨p, hp, rfl⟩ := id h1
    refine ⟨fun q => absurd q (nI_pos (by omega)), fun _ => ⟨fun _ => ?_, fun q => absurd (nI_le (show p ≤ α 0 29 by omega) (by omega)) q⟩⟩
    by_cases h2 : IX 401 a2
    · obtain ⟨t, ht, rfl⟩ := id h2
      refine ⟨fun q => absurd q (nI_pos (by omega)), fun _ => ⟨fun _ => ?_, fun q => absurd (nI_le (show t ≤ 400 by omega) (by omega)) q⟩⟩
      have f1 : Gi s b 0 (upN (upN α 0 0 0) 0 27 p) z 0 0 (fun _ => True) := gi
      have f2 : RS s 0 (upN (upN α 0 0 0) 0 27 p) z (up2 S 2 4 (nI p)) := by
        refine RS_MF (α := α) (S := S) ⟨fun k h0 h1 h2 => ?_, fun i h0 h1 h2 h3 => ?_⟩ (fun k h1 h2 h3 => ?_) gr ?_
        · rw [upN_row _ h0, upN_row _ h0]
        · rw [upN_ne _ (Or.inr h2), upN_ne _ (Or.inr h0)]
        · exact up2_row _ h1
        · exact ⟨rm.1, rfl, rm.2.2.1, rm.2.2.2.1, rm.2.2.2.2⟩
      obtain ⟨α', z', S', r, p1, p2, p3, p4, p5, p6⟩ := L_run (a1 := nI p) hN (show t ≤ 400 by omega) t 0 (upN (upN α 0 0 0) 0 27 p) z (up2 S 2 4 (nI p)) (by omega) f1 f2 rfl (by show p ≤ α 0 29; omega) h29
      rintro S5 rfl x7 rfl
      refine ⟨t + 2, p6 _ _ ?_⟩
      unfold wX5_run
      refine M_plc2 (L := α 0 29) rfl h29 (fun _ => ⟨fun q => (by simp at q), fun _ => ?_⟩) (fun q => absurd h1 q)
      refine M_in_t (k := 400) (by omega) h2 ⟨fun q => (by simp at q), fun _ => ?_⟩
      unfold wX5_run_b29
      rintro S7 rfl
      rw [thr0]
      refine ⟨fun _ => ?_, fun q => absurd (by decide) q⟩
      rintro S10 rfl
      rw [← nI_0, up2_nR, up2_nR]
      refine ⟨t + 1, p5 _ ⟨?_, fun _ => rfl, α', z', rfl, p1, p2, p4⟩⟩
      rw [nR_at, p3]
    · have md : wX5_run (nI p) a2 (nR α) (fun b1 T1 => wX5_thrown T1 (fun th T2 => th = 2 ∧ ((2 : Int32) = 0 → none = some b1) ∧ PV s b S T2)) := by
        unfold wX5_run
        refine M_plc2 (L := α 0 29) rfl h29 (fun _ => ⟨fun q => (by simp at q), fun _ => ?_⟩) (fun q => absurd h1 q)
        exact M_in_f (k := 400) (by omega) h2 ⟨fun _ => kx 2 (by omega) (by omega), fun q => (by simp at q)⟩
      refine ⟨fun _ => Or.inr ⟨rfl, md⟩, fun q0 => ⟨fun q1 => ?_, fun _ => Or.inr ⟨rfl, md⟩⟩⟩
      obtain ⟨m, hm, rfl⟩ := nI_of q0
      rw [show (400 : Int32) = nI 400 from rfl, nI_leI hm (by omega)] at q1
      exact absurd ⟨m, by omega, rfl⟩ h2
  · have md : wX5_run a1 a2 (nR α) (fun b1 T1 => wX5_thrown T1 (fun th T2 => th = 1 ∧ ((1 : Int32) = 0 → none = some b1) ∧ PV s b S T2)) := by
      unfold wX5_run
      exact M_plc2 (L := α 0 29) rfl h29 (fun q => absurd q h1) (fun _ => ⟨fun _ => kx 1 (by omega) (by omega), fun q => (by simp at q)⟩)
    refine ⟨fun _ => Or.inl ⟨rfl, md⟩, fun q0 => ⟨fun q1 => ?_, fun _ => Or.inl ⟨rfl, md⟩⟩⟩
    obtain ⟨m, hm, rfl⟩ := nI_of q0
    rw [nI_leI hm (by omega)] at q1
    exact absurd ⟨m, by omega, rfl⟩ h1
end PO13
