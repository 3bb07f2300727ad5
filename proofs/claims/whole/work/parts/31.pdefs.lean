/-! THE PURE PART: what is kept -/
theorem fb_holes : ∀ (m n : Nat) (f : Nat → Nat), (∀ i, i < n → f i < m) → (∀ i j, i < j → j < n → f i ≠ f j) → n ≤ m := by
  intro m
  induction m with
  | zero =>
    intro n f h1 _
    rcases Nat.eq_zero_or_pos n with h | h
    · omega
    · exact absurd (h1 0 h) (Nat.not_lt_zero _)
  | succ m ih =>
    intro n f h1 h2
    by_cases hx : ∃ i, i < n ∧ f i = m
    · obtain ⟨a, ha, hfa⟩ := hx
      have hg := ih (n - 1) (fun i => if i < a then f i else f (i + 1)) (by
        intro i hi
        by_cases q : i < a
        · simp only [if_pos q]
          have b1 := h1 i (by omega)
          have b2 := h2 i a q ha
          omega
        · simp only [if_neg q]
          have b1 := h1 (i + 1) (by omega)
          have b2 := h2 a (i + 1) (by omega) (by omega)
          omega) (by
        intro i j hij hj
        by_cases q : i < a
        · by_cases r : j < a
          · simp only [if_pos q, if_pos r]
            exact h2 i j hij (by omega)
          · simp only [if_pos q, if_neg r]
            exact h2 i (j + 1) (by omega) (by omega)
        · have r : ¬ j < a := by omega
          simp only [if_neg q, if_neg r]
          exact h2 (i + 1) (j + 1) (by omega) (by omega))
      omega
    · have hg := ih n f (fun i hi => by
        have b1 := h1 i hi
        have b2 : f i ≠ m := fun e => hx ⟨i, hi, e⟩
        omega) h2
      omega
def fb_sm (f : Nat → Nat) : Nat → Nat
  | 0 => 0
  | n + 1 => fb_sm f n + f n
theorem fb_sm_succ (f : Nat → Nat) (n : Nat) : fb_sm f (n + 1) = fb_sm f n + f n := rfl
theorem fb_sm_cong {f g : Nat → Nat} : ∀ {n : Nat}, (∀ k, k < n → f k = g k) → fb_sm f n = fb_sm g n
  | 0, _ => rfl
  | n + 1, h => by rw [fb_sm_succ, fb_sm_succ, fb_sm_cong (fun k hk => h k (by omega)), h n (by omega)]
theorem fb_sm_out (f : Nat → Nat) (v : Nat) {i n : Nat} (h : n ≤ i) : fb_sm (fun k => if k = i then v else f k) n = fb_sm f n :=
  fb_sm_cong fun k hk => if_neg (by omega)
theorem fb_sm_upd (f : Nat → Nat) (v : Nat) {i : Nat} : ∀ {n : Nat}, i < n → fb_sm (fun k => if k = i then v else f k) n + f i = fb_sm f n + v
  | 0, h => absurd h (Nat.not_lt_zero i)
  | n + 1, h => by
    rw [fb_sm_succ, fb_sm_succ]
    rcases Nat.lt_or_ge i n with q | q
    · have := fb_sm_upd f v q
      have e : (if n = i then v else f n) = f n := if_neg (by omega)
      rw [e]
      omega
    · have e : i = n := by omega
      subst e
      rw [fb_sm_out f v (Nat.le_refl _)]
      simp only [if_true]
      omega
theorem fb_sm_mono (f : Nat → Nat) (m : Nat) : ∀ n, fb_sm f m ≤ fb_sm f (m + n)
  | 0 => Nat.le_refl _
  | n + 1 => by
    have h := fb_sm_mono f m n
    show fb_sm f m ≤ fb_sm f (m + n + 1)
    rw [fb_sm_succ]
    omega
theorem fb_sm_part (f : Nat → Nat) {i n : Nat} (h : i < n) : fb_sm f i + f i ≤ fb_sm f n := by
  have := fb_sm_mono f (i + 1) (n - (i + 1))
  rw [fb_sm_succ, show i + 1 + (n - (i + 1)) = n by omega] at this
  exact this
theorem fb_sm_split (f : Nat → Nat) (m : Nat) : ∀ n, fb_sm f (m + n) = fb_sm f m + fb_sm (fun k => f (m + k)) n
  | 0 => rfl
  | n + 1 => by
    have h := fb_sm_split f m n
    show fb_sm f (m + n + 1) = _
    rw [fb_sm_succ, fb_sm_succ, h, Nat.add_assoc]
-- where things lie
def st (s : Nat) (α : Nat → Nat → Nat) (g : Nat) : Nat := hb s g (α 4 g)
def inU (s : Nat) (α : Nat → Nat → Nat) (a : Nat) : Prop := st s α (aG s a) ≤ a ∧ a < st s α (aG s a) + α 5 (aG s a)
def inF (s c : Nat) (α : Nat → Nat → Nat) (a : Nat) : Prop := aG s a < c ∧ α 19 (aG s a) ≤ a ∧ a < α 20 (aG s a)
def OU (s : Nat) (α : Nat → Nat → Nat) (z : Nat → Nat) (a : Nat) : Prop := inU s α a ∧ z a ≠ 0
def OF (s c : Nat) (α : Nat → Nat → Nat) (z : Nat → Nat) (a : Nat) : Prop := inF s c α a ∧ z a ≠ 0
def Ob (s c : Nat) (α : Nat → Nat → Nat) (z : Nat → Nat) (a : Nat) : Prop := OU s α z a ∨ OF s c α z a
def VV (s c : Nat) (α : Nat → Nat → Nat) (z : Nat → Nat) (a : Nat) : Prop := a = 0 ∨ Ob s c α z a
def FU (s : Nat) (α : Nat → Nat → Nat) (z : Nat → Nat) (f : Nat) : Prop := ∃ o, OU s α z o ∧ o + 2 ≤ f ∧ f < o + z o
def PZ (z : Nat → Nat) (lo hi : Nat) : Prop := (∀ a, lo ≤ a → a < hi → z a ≠ 0 → 2 ≤ z a ∧ z a ≤ 8 ∧ a + z a ≤ hi ∧ (a + z a < hi → z (a + z a) ≠ 0) ∧ ∀ i, a < i → i < a + z a → z i = 0) ∧ (lo < hi → z lo ≠ 0)
def HD (w n : Nat) : Prop := w % 8 + 2 = n ∧ w < 128
-- what is kept, c generations being collected
def Gn (s b c : Nat) (α : Nat → Nat → Nat) : Prop := (16 ≤ s ∧ s ≤ 128 ∧ c ≤ 3 ∧ α 0 3 = s ∧ α 0 5 = b ∧ 2 ≤ b ∧ b ≤ 64 ∧ α 3 0 ≤ 6 ∧ α 3 1 ≤ 6 ∧ (c = 0 ∨ α 0 31 + 1 = c)) ∧ (∀ g, g < 3 → α 4 g ≤ 1 ∧ α 5 g + (if g < c then α 21 g else 0) ≤ sz s g ∧ α 22 g ≤ α 5 g) ∧ (∀ g, g < c → α 19 g = hb s g (1 - α 4 g) ∧ α 20 g ≤ α 19 g + sz s g)
def Gs (c : Nat) (α : Nat → Nat → Nat) (z : Nat → Nat) : Prop := ∀ g, g < c → fb_sm (fun i => if α 2 (α 19 g + i) = 0 then z (α 19 g + i) else 0) (α 20 g - α 19 g) ≤ α 21 g
def Gz (s c : Nat) (α : Nat → Nat → Nat) (z : Nat → Nat) : Prop := (∀ g, g < 3 → PZ z (st s α g) (st s α g + α 5 g)) ∧ ∀ g, g < c → PZ z (α 19 g) (α 20 g)
def Gw (s c : Nat) (α : Nat → Nat → Nat) (z : Nat → Nat) : Prop := ∀ o, Ob s c α z o → HD (α 1 o) (z o) ∧ ∀ f, o + 2 ≤ f → f < o + z o → VV s c α z (α 1 f)
def Gf (s c : Nat) (α : Nat → Nat → Nat) (z : Nat → Nat) : Prop := ∀ o, OF s c α z o → α 2 o ≠ 0 → OU s α z (α 2 o) ∧ ∀ o', OF s c α z o' → α 2 o' = α 2 o → o' = o
def Gl (s c : Nat) (α : Nat → Nat → Nat) (z : Nat → Nat) (lo hi : Nat) : Prop := (∀ i, i < 16 → VV s c α z (α 6 i)) ∧ α 0 9 ≤ 40 ∧ (∀ i, i < α 0 9 → VV s c α z (α 7 i)) ∧ (∀ i, i < 8 → VV s c α z (α 8 i)) ∧ (lo ≤ hi ∧ hi ≤ α 0 12 ∧ lo + (α 0 12 - hi) + α 0 14 ≤ 7 * s / 2 ∧ α 0 12 ≤ 7 * s / 2) ∧ (∀ i, i < α 0 12 → i < lo ∨ hi ≤ i → Ob s c α z (α 9 i)) ∧ (∀ i, i < α 0 14 → Ob s c α z (α 10 i))
def EE (s c : Nat) (α : Nat → Nat → Nat) (z : Nat → Nat) (x y : Nat) : Prop := x ≠ y ∧ (OF s c α z x → α 2 x ≠ y) ∧ (OF s c α z y → α 2 y ≠ x)
def Gd (s c : Nat) (α : Nat → Nat → Nat) (z : Nat → Nat) (lo hi : Nat) : Prop := (∀ i j, i < j → j < α 0 12 → i < lo ∨ hi ≤ i → j < lo ∨ hi ≤ j → EE s c α z (α 9 i) (α 9 j)) ∧ (∀ i j, i < j → j < α 0 14 → EE s c α z (α 10 i) (α 10 j)) ∧ (∀ i j, i < α 0 12 → j < α 0 14 → i < lo ∨ hi ≤ i → EE s c α z (α 9 i) (α 10 j))
def Gq (s b : Nat) (α : Nat → Nat → Nat) (z : Nat → Nat) : Prop := α 0 16 ≤ b ∧ ∀ i, i < α 0 16 → FU s α z (α 11 i)
def Gr (s : Nat) (α : Nat → Nat → Nat) (z : Nat → Nat) : Prop := ∀ r, r < 2 → ∀ i, i < α 12 r → FU s α z (α 13 (1000 * r + i)) ∧ r < aG s (α 13 (1000 * r + i)) ∧ ∀ j, j < i → α 13 (1000 * r + j) ≠ α 13 (1000 * r + i)
def DN (s : Nat) (α : Nat → Nat → Nat) (z : Nat → Nat) (f : Nat) : Prop := α 1 f = 0 ∨ (OU s α z (α 1 f) ∧ (aG s (α 1 f) < aG s f → (∃ i, i < α 12 (aG s (α 1 f)) ∧ α 13 (1000 * aG s (α 1 f) + i) = f) ∨ ∃ i, i < α 0 16 ∧ α 11 i = f))
def Gk (s : Nat) (α : Nat → Nat → Nat) (z : Nat → Nat) (K : Nat → Prop) : Prop := ∀ f, K f → FU s α z f → f < st s α (aG s f) + α 5 (aG s f) ∧ DN s α z f
def Gi (s b c : Nat) (α : Nat → Nat → Nat) (z : Nat → Nat) (lo hi : Nat) (K : Nat → Prop) : Prop := Gn s b c α ∧ Gs c α z ∧ Gz s c α z ∧ Gw s c α z ∧ Gf s c α z ∧ Gl s c α z lo hi ∧ Gd s c α z lo hi ∧ Gq s b α z ∧ Gr s α z ∧ Gk s α z K
section PD
variable {s b c : Nat} {α : Nat → Nat → Nat} {z : Nat → Nat}
theorem U_gen {g a : Nat} (hn : Gn s b c α) (hg : g < 3) (h1 : st s α g ≤ a) (h2 : a < st s α g + α 5 g) : aG s a = g := by
  have h3 := (hn.2.1 g hg)
  have h4 := hb_in (s := s) (h := α 4 g) hg
  unfold st at h1 h2
  exact aG_of hg (by omega) (by omega)
theorem F_gen {g a : Nat} (hn : Gn s b c α) (hg : g < c) (h1 : α 19 g ≤ a) (h2 : a < α 20 g) : aG s a = g := by
  have h3 := (hn.2.2 g hg)
  have hc : c ≤ 3 := hn.1.2.2.1
  have h4 := hb_in (s := s) (g := g) (h := 1 - α 4 g) (by omega)
  exact aG_of (by omega) (by omega) (by omega)
theorem U_of {g a : Nat} (hn : Gn s b c α) (hg : g < 3) (h1 : st s α g ≤ a) (h2 : a < st s α g + α 5 g) : inU s α a := by
  have e := U_gen hn hg h1 h2
  unfold inU
  rw [e]
  exact ⟨h1, h2⟩
theorem F_of {g a : Nat} (hn : Gn s b c α) (hg : g < c) (h1 : α 19 g ≤ a) (h2 : a < α 20 g) : inF s c α a := by
  have e := F_gen hn hg h1 h2
  unfold inF
  rw [e]
  exact ⟨hg, h1, h2⟩
theorem U_lt {a : Nat} (hn : Gn s b c α) (h : inU s α a) : 1 ≤ a ∧ a < 1 + 14 * s := by
  have hg := aG_lt s a
  have h3 := hn.2.1 _ hg
  have h4 := hb_in (s := s) (h := α 4 (aG s a)) hg
  have h5 := bs_top (s := s) hg
  have h6 := bs_mono (s := s) (g := 0) (k := aG s a) (by omega)
  have h7 : bs s 0 = 1 := rfl
  unfold inU st at h
  omega
theorem F_lt {a : Nat} (hn : Gn s b c α) (h : inF s c α a) : 1 ≤ a ∧ a < 1 + 14 * s := by
  have hg := aG_lt s a
  have h3 := hn.2.2 _ h.1
  have h4 := hb_in (s := s) (h := 1 - α 4 (aG s a)) hg
  have h5 := bs_top (s := s) hg
  have h6 := bs_mono (s := s) (g := 0) (k := aG s a) (by omega)
  have h7 : bs s 0 = 1 := rfl
  unfold inF at h
  omega
theorem UF_no {a : Nat} (hn : Gn s b c α) (h : inU s α a) (h2 : inF s c α a) : False := by
  have hg := aG_lt s a
  have h3 := hn.2.1 _ hg
  have h4 := hn.2.2 _ h2.1
  unfold inU st at h
  unfold inF at h2
  generalize aG s a = g at h h2 h3 h4 hg
  have e : (if g < c then α 21 g else 0) ≥ 0 := Nat.zero_le _
  generalize (if g < c then α 21 g else 0) = y at *
  rw [h4.1] at h2
  rcases (show α 4 g = 0 ∨ α 4 g = 1 by omega) with q | q <;> rw [q] at h h2 h4 <;> simp [hb] at h h2 h4 <;> omega
theorem Ob_lt {a : Nat} (hn : Gn s b c α) (h : Ob s c α z a) : 1 ≤ a ∧ a < 1 + 14 * s := h.elim (fun q => U_lt hn q.1) (fun q => F_lt hn q.1)
theorem OU_pz {a : Nat} (hz : Gz s c α z) (h : OU s α z a) : 2 ≤ z a ∧ z a ≤ 8 ∧ a + z a ≤ st s α (aG s a) + α 5 (aG s a) ∧ ∀ i, a < i → i < a + z a → z i = 0 := by
  have q := (hz.1 _ (aG_lt s a)).1 a h.1.1 h.1.2 h.2
  exact ⟨q.1, q.2.1, q.2.2.1, q.2.2.2.2⟩
theorem OF_pz {a : Nat} (hz : Gz s c α z) (h : OF s c α z a) : 2 ≤ z a ∧ z a ≤ 8 ∧ a + z a ≤ α 20 (aG s a) ∧ ∀ i, a < i → i < a + z a → z i = 0 := by
  have q := (hz.2 _ h.1.1).1 a h.1.2.1 h.1.2.2 h.2
  exact ⟨q.1, q.2.1, q.2.2.1, q.2.2.2.2⟩
theorem OU_in {a i : Nat} (hn : Gn s b c α) (hz : Gz s c α z) (h : OU s α z a) (hi : i < z a) : aG s (a + i) = aG s a ∧ inU s α (a + i) := by
  have q := OU_pz hz h
  have h1 := h.1.1
  have e := U_gen (a := a + i) hn (aG_lt s a) (by omega) (by omega)
  exact ⟨e, U_of hn (aG_lt s a) (by omega) (by omega)⟩
theorem OF_in {a i : Nat} (hn : Gn s b c α) (hz : Gz s c α z) (h : OF s c α z a) (hi : i < z a) : aG s (a + i) = aG s a ∧ inF s c α (a + i) := by
  have q := OF_pz hz h
  have h1 := h.1.2.1
  have e := F_gen (a := a + i) hn h.1.1 (by omega) (by omega)
  exact ⟨e, F_of hn h.1.1 (by omega) (by omega)⟩
theorem FU_in {f : Nat} (hn : Gn s b c α) (hz : Gz s c α z) (h : FU s α z f) : inU s α f ∧ z f = 0 := by
  obtain ⟨o, h1, h2, h3⟩ := h
  have q := OU_in (i := f - o) hn hz h1 (by omega)
  rw [show o + (f - o) = f by omega] at q
  exact ⟨q.2, (OU_pz hz h1).2.2.2 f (by omega) h3⟩
/-- two objects that have a word in common are one -/
theorem OU_one {o o' f : Nat} (hn : Gn s b c α) (hz : Gz s c α z) (h : OU s α z o) (h' : OU s α z o') (h1 : o ≤ f) (h2 : f < o + z o) (h3 : o' ≤ f) (h4 : f < o' + z o') : o = o' := by
  rcases Nat.lt_trichotomy o o' with q | q | q
  · exact absurd ((OU_pz hz h).2.2.2 o' q (by omega)) h'.2
  · exact q
  · exact absurd ((OU_pz hz h').2.2.2 o q (by omega)) h.2
theorem Gw_lt {o : Nat} (hn : Gn s b c α) (hw : Gw s c α z) (h : Ob s c α z o) {f : Nat} (h1 : o + 2 ≤ f) (h2 : f < o + z o) : α 1 f < 1 + 14 * s := by
  rcases (hw o h).2 f h1 h2 with q | q
  · omega
  · exact (Ob_lt hn q).2
theorem VV_lt {a : Nat} (hn : Gn s b c α) (h : VV s c α z a) : a < 1 + 14 * s := h.elim (fun q => by omega) (fun q => (Ob_lt hn q).2)
end PD
