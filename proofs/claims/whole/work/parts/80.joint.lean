/-! class and reference at the same token -/
theorem tx_tok_ok {c : Nat → Nat} {t p : Nat} (hp : p ≤ t) : ((tx_tok c t p).1 ≤ 4 ∧ (tx_tok c t p).2.2.2 ≤ t ∧ (tx_tok c t p).2.2.1 ≤ t) ∧ ((tx_tok c t p).1 = 2 → (tx_tok c t p).2.1 < 24) ∧ ((tx_tok c t p).1 = 3 → (tx_tok c t p).2.1 ≤ 9999) ∧ ((tx_tok c t p).1 = 4 → tx_G (tx_tok c t p).2.1 = true) := by
  have hq := tx_end_le (P := tx_K) (c := c) hp
  unfold tx_tok
  generalize tx_end tx_K c t p = q at hq ⊢
  by_cases h1 : q < t
  · rw [if_pos h1]
    by_cases h2 : tx_L (c q) = true
    · rw [if_pos h2]
      have hle := tx_end_le (P := tx_L) (c := c) hq
      rcases hg : tx_fi tx_ws 0 (tx_sl c q (tx_end tx_L c t q - q)) with _ | g
      · exact ⟨⟨by show 1 ≤ 4; omega, hle, hq⟩, fun h => absurd h (by show ¬ 1 = 2; decide), fun h => absurd h (by show ¬ 1 = 3; decide), fun h => absurd h (by show ¬ 1 = 4; decide)⟩
      · exact ⟨⟨by show 2 ≤ 4; omega, hle, hq⟩, fun _ => tx_fi_lt _ _ hg, fun h => absurd h (by show ¬ 2 = 3; decide), fun h => absurd h (by show ¬ 2 = 4; decide)⟩
    · rw [if_neg h2]
      by_cases h3 : tx_D (c q) = true
      · rw [if_pos h3]
        have hle := tx_end_le (P := tx_D) (c := c) hq
        by_cases h4 : tx_end tx_D c t q - q ≤ 4
        · rw [if_pos h4]
          refine ⟨⟨by show 3 ≤ 4; omega, hle, hq⟩, fun h => absurd h (by show ¬ 3 = 2; decide), fun _ => ?_, fun h => absurd h (by show ¬ 3 = 4; decide)⟩
          have h5 := tx_nm_lt c q (tx_end tx_D c t q - q) (fun k hk => tx_end_in (P := tx_D) (c := c) (t := t) (p := q) (q + k) (by omega) (by omega))
          have h6 : 10 ^ (tx_end tx_D c t q - q) ≤ 10 ^ 4 := Nat.pow_le_pow_right (by decide) h4
          show tx_nm c q (tx_end tx_D c t q - q) ≤ 9999
          have h7 : (10 : Nat) ^ 4 = 10000 := rfl
          omega
        · rw [if_neg h4]
          exact ⟨⟨by show 1 ≤ 4; omega, hle, hq⟩, fun h => absurd h (by show ¬ 1 = 2; decide), fun h => absurd h (by show ¬ 1 = 3; decide), fun h => absurd h (by show ¬ 1 = 4; decide)⟩
      · rw [if_neg h3]
        by_cases h4 : tx_G (c q) = true
        · rw [if_pos h4]
          exact ⟨⟨by show 4 ≤ 4; omega, h1, hq⟩, fun h => absurd h (by show ¬ 4 = 2; decide), fun h => absurd h (by show ¬ 4 = 3; decide), fun _ => h4⟩
        · rw [if_neg h4]
          exact ⟨⟨by show 1 ≤ 4; omega, h1, hq⟩, fun h => absurd h (by show ¬ 1 = 2; decide), fun h => absurd h (by show ¬ 1 = 3; decide), fun h => absurd h (by show ¬ 1 = 4; decide)⟩
  · rw [if_neg h1]
    exact ⟨⟨by show 0 ≤ 4; omega, hq, hq⟩, fun h => absurd h (by show ¬ 0 = 2; decide), fun h => absurd h (by show ¬ 0 = 3; decide), fun h => absurd h (by show ¬ 0 = 4; decide)⟩
theorem tx_pos_le {c : Nat → Nat} {t : Nat} : ∀ i, tx_pos c t i ≤ t
  | 0 => Nat.zero_le _
  | i + 1 => (tx_tok_ok (tx_pos_le i)).1.2.1
theorem tx_G_lt {g : Nat} (h : tx_G g = true) : 40 ≤ g ∧ g ≤ 62 := by
  have h2 : g = 59 ∨ g = 43 ∨ g = 45 ∨ g = 42 ∨ g = 47 ∨ g = 40 ∨ g = 41 ∨ g = 60 ∨ g = 61 ∨ g = 62 := by simpa [tx_G] using h
  omega
theorem tx_wd_lt (k g : Nat) : tx_wd k g ≤ 31 := by
  unfold tx_wd
  split <;> (repeat' split) <;> omega
/-- the token's kind, as a number -/
theorem tx_kd_lt {k c t i} : tx_kd k (tx_tn c t i).1 (tx_tn c t i).2.1 ≤ 62 := by
  obtain ⟨⟨h1, -, -⟩, -, -, h4⟩ := tx_tok_ok (c := c) (t := t) (tx_pos_le i)
  unfold tx_tn
  generalize tx_tok c t (tx_pos c t i) = x at h1 h4 ⊢
  have h5 : x.1 = 0 ∨ x.1 = 1 ∨ x.1 = 2 ∨ x.1 = 3 ∨ x.1 = 4 := by omega
  rcases h5 with h | h | h | h | h
  · rw [h]; show 32 ≤ 62; omega
  · rw [h]; show 31 ≤ 62; omega
  · rw [h]; exact Nat.le_trans (tx_wd_lt _ _) (by omega)
  · rw [h]; show 33 ≤ 62; omega
  · rw [h]; exact (tx_G_lt (h4 h)).2
def tx_J (k : Nat) (c : Nat → Nat) (t n a : Nat) (σ τ : ix_St) : Prop := tx_cs σ k c t n a ∧ (tx_tm τ c t ∧ σ 105 1 = 0 ∧ σ 105 2 = -1) ∧ tx_at τ (tx_tn c t a)
/-- what parsing leaves alone -/
def tx_fa (σ σ' : ix_St) : Prop := (∀ z, z ≠ 100 → z ≠ 105 → σ' z = σ z) ∧ ∀ j, j ≠ 1 → j ≠ 2 → σ' 105 j = σ 105 j
def tx_fb (τ τ' : ix_St) : Prop := (∀ z, z ≠ 135 → τ' z = τ z) ∧ ∀ j, j ≠ 14 → j ≠ 15 → j ≠ 16 → j ≠ 17 → j ≠ 31 → j ≠ 32 → τ' 135 j = τ 135 j
theorem tx_fa.rf {σ : ix_St} : tx_fa σ σ := ⟨fun _ _ _ => rfl, fun _ _ _ => rfl⟩
theorem tx_fa.tr {σ σ1 σ2 : ix_St} (h : tx_fa σ σ1) (h2 : tx_fa σ1 σ2) : tx_fa σ σ2 := ⟨fun z a b => (h2.1 z a b).trans (h.1 z a b), fun j a b => (h2.2 j a b).trans (h.2 j a b)⟩
theorem tx_fb.rf {τ : ix_St} : tx_fb τ τ := ⟨fun _ _ => rfl, fun _ _ _ _ _ _ _ => rfl⟩
theorem tx_fb.tr {τ τ1 τ2 : ix_St} (h : tx_fb τ τ1) (h2 : tx_fb τ1 τ2) : tx_fb τ τ2 := ⟨fun z a => (h2.1 z a).trans (h.1 z a), fun j a b c d e f => (h2.2 j a b c d e f).trans (h.2 j a b c d e f)⟩
theorem tx_fr.fb {τ τ' : ix_St} (h : tx_fr τ τ') : tx_fb τ τ' := ⟨h.1, fun j a b c d _ _ => h.2 j a b c d⟩
def tx_bad (σ τ : ix_St) : Prop := σ 105 1 = τ 135 31 ∧ σ 105 2 = τ 135 32
section Jt
variable {k n a t : Nat} {c : Nat → Nat} {σ τ : ix_St}
theorem tx_J.kind (h : tx_J k c t n a σ τ) : σ 100 7 = nI (tx_kd k (tx_tn c t a).1 (tx_tn c t a).2.1) := by
  rw [h.1.2.1.2.2.1]
  exact (h.1.2.2.1 a h.1.1.2).1
theorem tx_J.place (h : tx_J k c t n a σ τ) : σ 100 9 = τ 135 15 := by
  rw [h.1.2.1.2.2.2.2, h.2.2.2.1]
  exact (h.1.2.2.1 a h.1.1.2).2.1
theorem tx_J.num (h : tx_J k c t n a σ τ) (h3 : (tx_tn c t a).1 = 3) : σ 100 8 = nI (tx_tn c t a).2.1 := by
  rw [h.1.2.1.2.2.2.1]
  exact (h.1.2.2.1 a h.1.1.2).2.2.1 h3
theorem tx_J.zero (h : tx_J k c t n a σ τ) (h3 : (tx_tn c t a).1 = 2) : σ 100 8 = 0 := by
  rw [h.1.2.1.2.2.2.1]
  exact (h.1.2.2.1 a h.1.1.2).2.2.2 h3
theorem tx_J.lt (h : tx_J k c t n a σ τ) (h3 : (tx_tn c t a).1 ≠ 0) : a < n := by
  have h1 := h.1.1.2
  by_cases e : a = n
  · rw [e] at h3
    exact absurd h.1.2.2.2.2 h3
  · omega
theorem tx_J.ok (_h : tx_J k c t n a σ τ) : ((tx_tn c t a).1 ≤ 4 ∧ (tx_tn c t a).2.2.2 ≤ t ∧ (tx_tn c t a).2.2.1 ≤ t) ∧ ((tx_tn c t a).1 = 2 → (tx_tn c t a).2.1 < 24) ∧ ((tx_tn c t a).1 = 3 → (tx_tn c t a).2.1 ≤ 9999) ∧ ((tx_tn c t a).1 = 4 → tx_G (tx_tn c t a).2.1 = true) := tx_tok_ok (tx_pos_le a)
/-- other cells may change -/
theorem tx_J.cg {σ' τ' : ix_St} (h : tx_J k c t n a σ τ) (h1 : ∀ z, 100 ≤ z → z ≤ 105 → z ≠ 101 → σ' z = σ z) (h2 : τ' 143 = τ 143) (h3 : τ' 144 = τ 144) (h4 : ∀ j, 13 ≤ j → j ≤ 17 → τ' 135 j = τ 135 j) : tx_J k c t n a σ' τ' := by
  obtain ⟨⟨a1, a2, a3, a4⟩, ⟨⟨b1, b2, b3, b4⟩, b5⟩, c1⟩ := h
  unfold tx_J tx_cs tx_tm tx_at
  rw [h1 105 (by omega) (by omega) (by omega), h1 100 (by omega) (by omega) (by omega), h1 102 (by omega) (by omega) (by omega), h1 103 (by omega) (by omega) (by omega), h1 104 (by omega) (by omega) (by omega), h2, h3, h4 13 (by omega) (by omega), h4 14 (by omega) (by omega), h4 15 (by omega) (by omega), h4 16 (by omega) (by omega), h4 17 (by omega) (by omega)]
  exact ⟨⟨a1, a2, a3, a4⟩, ⟨⟨b1, b2, b3, b4⟩, b5⟩, c1⟩
theorem j_adv {b d : Bool} (h : tx_J k c t n a σ τ) (ha : a < n) : ∃ σ' τ', ix_F 142 [.ref 100] (ix_S0 b, σ) = some (.null, (ix_S0 b, σ')) ∧ ix_F 233 [.ref 135] (ix_S0 d, τ) = some (.null, (ix_S0 d, τ')) ∧ tx_J k c t n (a + 1) σ' τ' ∧ tx_fa σ σ' ∧ tx_fb τ τ' ∧ ∀ j, j < 6 → σ' 100 j = σ 100 j := by
  obtain ⟨⟨⟨hn, han⟩, ⟨h5, h6, h7, h8, h9⟩, hct, hne, hend⟩, ⟨hT, hb1, hb2⟩, hat⟩ := h
  obtain ⟨τ', r1, r2, r3⟩ := f_reads (b := d) hT (tx_tok_ok (tx_pos_le a)).1.2.1 hat.1
  refine ⟨ix_up (ix_up (ix_up (ix_up σ 100 6 (nI (a + 1))) 100 7 (σ 102 (a + 1))) 100 8 (σ 103 (a + 1))) 100 9 (σ 104 (a + 1)), τ', ?_, r1, ⟨⟨⟨hn, ha⟩, ⟨?_, ?_, ?_, ?_, ?_⟩, ?_, hne, hend⟩, ⟨hT.fr r3, by rw [iv_upn (by omega), iv_upn (by omega), iv_upn (by omega), iv_upn (by omega)]; exact hb1, by rw [iv_upn (by omega), iv_upn (by omega), iv_upn (by omega), iv_upn (by omega)]; exact hb2⟩, r2⟩, ⟨fun z h1 h2 => ?_, fun j _ _ => ?_⟩, r3.fb, fun j hj => ?_⟩
  · rw [q_Tape_advance_0, h5, h6, nI_1, if_neg (nI_ge (by omega) (by omega)), nI_clamp (by omega), if_neg (tx_in (by omega) (by omega)), if_neg (tx_in (by omega) (by omega)), if_neg (tx_in (by omega) (by omega))]
  · rw [tx_un (by omega), tx_un (by omega), tx_un (by omega), tx_un (by omega), h5]
  · rw [tx_un (by omega), tx_un (by omega), tx_un (by omega), tx_us]
  · rw [tx_un (by omega), tx_un (by omega), tx_us, iv_upn (by omega), iv_upn (by omega), iv_upn (by omega), iv_upn (by omega)]
  · rw [tx_un (by omega), tx_us, iv_upn (by omega), iv_upn (by omega), iv_upn (by omega), iv_upn (by omega)]
  · rw [tx_us, iv_upn (by omega), iv_upn (by omega), iv_upn (by omega), iv_upn (by omega)]
  · intro j hj
    rw [iv_upn (by omega), iv_upn (by omega), iv_upn (by omega), iv_upn (by omega)]
    rw [iv_upn (by omega), iv_upn (by omega), iv_upn (by omega), iv_upn (by omega)]
    rw [iv_upn (by omega), iv_upn (by omega), iv_upn (by omega), iv_upn (by omega)]
    exact hct j hj
  · rw [iv_upn h1, iv_upn h1, iv_upn h1, iv_upn h1]
  · rw [iv_upn (by omega), iv_upn (by omega), iv_upn (by omega), iv_upn (by omega)]
  · rw [tx_un (by omega), tx_un (by omega), tx_un (by omega), tx_un (by omega)]
theorem j_bl {b d : Bool} (h : tx_J k c t n a σ τ) (f : Int32) : ∃ σ' τ', ix_F 68 [.ref 105, .int f] (ix_S0 b, σ) = some (.int 0, (ix_S0 b, σ')) ∧ ix_F 255 [.ref 135, .int f] (ix_S0 d, τ) = some (.int (-1), (ix_S0 d, τ')) ∧ tx_bad σ' τ' ∧ tx_fa σ σ' ∧ tx_fb τ τ' := by
  refine ⟨_, _, q_Parser_blamed_0 b f σ, q_M_errs_0 d f τ, ⟨?_, ?_⟩, ⟨fun z h1 h2 => ?_, fun j h1 h2 => ?_⟩, ⟨fun z h1 => ?_, fun j _ _ _ _ h5 h6 => ?_⟩⟩
  · rw [tx_un (by omega), tx_us, tx_un (by omega), tx_us]
  · rw [tx_us, tx_us, h.place]
  · rw [iv_upn h2, iv_upn h2]
  · rw [tx_un h2, tx_un h1]
  · rw [iv_upn h1, iv_upn h1]
  · rw [tx_un h6, tx_un h5]
/-- a number is due -/
theorem j_isN (h : tx_J k c t n a σ τ) : (σ 100 7 = 33 ↔ (tx_tn c t a).1 = 3) ∧ (τ 135 16 = 3 ↔ (tx_tn c t a).1 = 3) := by
  obtain ⟨⟨h1, -, -⟩, -, -, h4⟩ := h.ok
  have hk := h.kind
  have hlt := tx_kd_lt (k := k) (c := c) (t := t) (i := a)
  have hat := h.2.2.2.2.1
  refine ⟨?_, ?_⟩
  · rw [hk, show (33 : Int32) = nI 33 from rfl, nI_eq (by omega) (by omega)]
    generalize tx_tn c t a = x at h1 h4 ⊢
    have h5 : x.1 = 0 ∨ x.1 = 1 ∨ x.1 = 2 ∨ x.1 = 3 ∨ x.1 = 4 := by omega
    rcases h5 with h | h | h | h | h
    · rw [h]; show 32 = 33 ↔ 0 = 3; omega
    · rw [h]; show 31 = 33 ↔ 1 = 3; omega
    · rw [h]; show tx_wd k x.2.1 = 33 ↔ 2 = 3
      have := tx_wd_lt k x.2.1
      omega
    · rw [h]; show 33 = 33 ↔ 3 = 3; omega
    · rw [h]; show x.2.1 = 33 ↔ 4 = 3
      have := tx_G_lt (h4 h)
      omega
  · rw [hat, show (3 : Int32) = nI 3 from rfl, nI_eq (by omega) (by omega)]
theorem j_num {b d : Bool} (h : tx_J k c t n a σ τ) {lo hi : Nat} (hlo : lo < 2 ^ 31) (hhi : hi < 2 ^ 31) : ∃ v σ' τ', ix_F 78 [.ref 105, .int (nI lo), .int (nI hi)] (ix_S0 b, σ) = some (.int v, (ix_S0 b, σ')) ∧ ix_F 273 [.ref 135, .int (nI lo), .int (nI hi)] (ix_S0 d, τ) = some (.int v, (ix_S0 d, τ')) ∧ tx_fa σ σ' ∧ tx_fb τ τ' ∧ ((v = -1 ∧ tx_bad σ' τ') ∨ ∃ x : Nat, v = nI x ∧ lo ≤ x ∧ x ≤ hi ∧ x ≤ 9999 ∧ tx_J k c t n (a + 1) σ' τ') := by
  obtain ⟨i1, i2⟩ := j_isN h
  by_cases e : (tx_tn c t a).1 = 3
  · have hv := h.num e
    have hv2 : τ 135 17 = nI (tx_tn c t a).2.1 := h.2.2.2.2.2 (by omega)
    have hx := h.ok.2.2.1 e
    rw [q_Parser_expectNumber_0, q_M_readNumber_0, if_pos (i1.mpr e), if_pos (i2.mpr e), hv, hv2, f_isIn]
    simp only [Option.bind_some, iv_tI]
    by_cases g1 : (tx_tn c t a).2.1 < lo
    · obtain ⟨σ', τ', b1, b2, b3, b4, b5⟩ := j_bl (b := b) (d := d) h 2
      rw [if_pos (nI_lt g1 (by omega)), iv_Bf (fun q => absurd q.1 (nI_ge g1 (by omega))), if_pos rfl, b1, b2]
      simp only [Option.bind_some, iv_tI]
      exact ⟨-1, σ', τ', rfl, rfl, b4, b5, Or.inl ⟨rfl, b3⟩⟩
    · rw [if_neg (nI_nlt (by omega) (by omega))]
      by_cases g2 : (tx_tn c t a).2.1 ≤ hi
      · obtain ⟨σ', τ', b1, b2, b3, b4, b5, -⟩ := j_adv (b := b) (d := d) h (h.lt (by omega))
        rw [if_pos (nI_le g2 (by omega)), iv_Bt ⟨nI_le (by omega) (by omega), nI_le g2 (by omega)⟩, if_neg (by decide), b1, b2]
        simp only [Option.bind_some, iv_tI]
        exact ⟨_, σ', τ', rfl, by rw [hv2], b4, b5, Or.inr ⟨_, rfl, by omega, g2, hx, b3⟩⟩
      · obtain ⟨σ', τ', b1, b2, b3, b4, b5⟩ := j_bl (b := b) (d := d) h 2
        rw [if_neg (nI_ge (by omega) (by omega)), iv_Bf (fun q => absurd q.2 (nI_ge (by omega) (by omega))), if_pos rfl, b1, b2]
        simp only [Option.bind_some, iv_tI]
        exact ⟨-1, σ', τ', rfl, rfl, b4, b5, Or.inl ⟨rfl, b3⟩⟩
  · obtain ⟨σ', τ', b1, b2, b3, b4, b5⟩ := j_bl (b := b) (d := d) h 1
    rw [q_Parser_expectNumber_0, q_M_readNumber_0, if_neg (fun q => e (i1.mp q)), if_neg (fun q => e (i2.mp q)), b1, b2]
    simp only [Option.bind_some, iv_tI]
    exact ⟨-1, σ', τ', rfl, rfl, b4, b5, Or.inl ⟨rfl, b3⟩⟩
/-- a sign is due -/
theorem j_isG {d : Bool} (h : tx_J k c t n a σ τ) {g : Nat} (hg : tx_G g = true) : (σ 100 7 = nI g ↔ (tx_tn c t a).1 = 4 ∧ (tx_tn c t a).2.1 = g) ∧ ix_F 262 [.ref 135, .int (nI g)] (ix_S0 d, τ) = some (.int (iv_B ((tx_tn c t a).1 = 4 ∧ (tx_tn c t a).2.1 = g)), (ix_S0 d, τ)) := by
  obtain ⟨⟨h1, -, -⟩, -, -, h4⟩ := h.ok
  have hgl := tx_G_lt hg
  have hk := h.kind
  have hlt := tx_kd_lt (k := k) (c := c) (t := t) (i := a)
  have hat := h.2.2.2.2.1
  have hat2 := h.2.2.2.2.2
  refine ⟨?_, ?_⟩
  · rw [hk, nI_eq (by omega) (by omega)]
    generalize tx_tn c t a = x at h1 h4 ⊢
    have h5 : x.1 = 0 ∨ x.1 = 1 ∨ x.1 = 2 ∨ x.1 = 3 ∨ x.1 = 4 := by omega
    rcases h5 with h | h | h | h | h
    · rw [h]; show 32 = g ↔ 0 = 4 ∧ _; omega
    · rw [h]; show 31 = g ↔ 1 = 4 ∧ _; omega
    · rw [h]; show tx_wd k x.2.1 = g ↔ 2 = 4 ∧ _
      have := tx_wd_lt k x.2.1
      omega
    · rw [h]; show 33 = g ↔ 3 = 4 ∧ _; omega
    · rw [h]; show x.2.1 = g ↔ 4 = 4 ∧ _; omega
  · rw [q_M_isSign_0, hat]
    by_cases e : (tx_tn c t a).1 = 4
    · have h6 := tx_G_lt (h4 e)
      rw [if_pos (by rw [e]; rfl), hat2 (by omega)]
      by_cases e2 : (tx_tn c t a).2.1 = g
      · rw [if_pos (by rw [e2]), iv_Bt ⟨e, e2⟩]
      · rw [if_neg (fun q => e2 ((nI_eq (by omega) (by omega)).mp q)), iv_Bf (fun q => e2 q.2)]
    · rw [if_neg (show ¬ nI (tx_tn c t a).1 = 4 from fun q => e ((nI_eq (b := 4) (by omega) (by omega)).mp q)), iv_Bf (fun q => e q.1)]
theorem j_mark {b d : Bool} (h : tx_J k c t n a σ τ) {g : Nat} (hg : tx_G g = true) : ∃ v w σ' τ', ix_F 75 [.ref 105, .int (nI g)] (ix_S0 b, σ) = some (.int v, (ix_S0 b, σ')) ∧ ix_F 274 [.ref 135, .int (nI g)] (ix_S0 d, τ) = some (.int w, (ix_S0 d, τ')) ∧ tx_fa σ σ' ∧ tx_fb τ τ' ∧ ((v = 0 ∧ w = -1 ∧ tx_bad σ' τ') ∨ (v = 1 ∧ w = 0 ∧ tx_J k c t n (a + 1) σ' τ')) := by
  obtain ⟨i1, i2⟩ := j_isG (d := d) h hg
  rw [q_Parser_expect_0, q_M_readMark_0, i2]
  simp only [Option.bind_some, iv_tI]
  by_cases e : (tx_tn c t a).1 = 4 ∧ (tx_tn c t a).2.1 = g
  · obtain ⟨σ', τ', b1, b2, b3, b4, b5, -⟩ := j_adv (b := b) (d := d) h (h.lt (by omega))
    rw [if_pos (i1.mpr e), iv_Bt e, if_neg (by decide), b1, b2]
    simp only [Option.bind_some, iv_tI]
    exact ⟨1, 0, σ', τ', rfl, rfl, b4, b5, Or.inr ⟨rfl, rfl, b3⟩⟩
  · obtain ⟨σ', τ', b1, b2, b3, b4, b5⟩ := j_bl (b := b) (d := d) h 1
    rw [if_neg (fun q => e (i1.mp q)), iv_Bf e, if_pos rfl, b1, b2]
    simp only [Option.bind_some, iv_tI]
    rw [if_pos (Or.inl trivial)]
    exact ⟨0, -1, σ', τ', rfl, rfl, b4, b5, Or.inl ⟨rfl, rfl, b3⟩⟩
/-- a word is due: w in the class, g in the reference -/
theorem j_isW {d : Bool} (h : tx_J k c t n a σ τ) {w g : Nat} (hw : w < 31) (hg : g < 24) (hwd : ∀ x, x < 24 → (tx_wd k x = w ↔ x = g)) : (σ 100 7 = nI w ↔ (tx_tn c t a).1 = 2 ∧ (tx_tn c t a).2.1 = g) ∧ ix_F 254 [.ref 135, .int (nI g)] (ix_S0 d, τ) = some (.int (iv_B ((tx_tn c t a).1 = 2 ∧ (tx_tn c t a).2.1 = g)), (ix_S0 d, τ)) := by
  obtain ⟨⟨h1, -, -⟩, h2, -, h4⟩ := h.ok
  have hk := h.kind
  have hlt := tx_kd_lt (k := k) (c := c) (t := t) (i := a)
  have hat := h.2.2.2.2.1
  have hat2 := h.2.2.2.2.2
  refine ⟨?_, ?_⟩
  · rw [hk, nI_eq (by omega) (by omega)]
    generalize tx_tn c t a = x at h1 h2 h4 ⊢
    have h5 : x.1 = 0 ∨ x.1 = 1 ∨ x.1 = 2 ∨ x.1 = 3 ∨ x.1 = 4 := by omega
    rcases h5 with h | h | h | h | h
    · rw [h]; show 32 = w ↔ 0 = 2 ∧ _; omega
    · rw [h]; show 31 = w ↔ 1 = 2 ∧ _; omega
    · have := hwd _ (h2 h)
      rw [h]; show tx_wd k x.2.1 = w ↔ 2 = 2 ∧ _
      omega
    · rw [h]; show 33 = w ↔ 3 = 2 ∧ _; omega
    · rw [h]; show x.2.1 = w ↔ 4 = 2 ∧ _
      have := tx_G_lt (h4 h)
      omega
  · rw [q_M_isWord_0, hat]
    by_cases e : (tx_tn c t a).1 = 2
    · have h6 := h2 e
      rw [if_pos (by rw [e]; rfl), hat2 (by omega)]
      by_cases e2 : (tx_tn c t a).2.1 = g
      · rw [if_pos (by rw [e2]), iv_Bt ⟨e, e2⟩]
      · rw [if_neg (fun q => e2 ((nI_eq (by omega) (by omega)).mp q)), iv_Bf (fun q => e2 q.2)]
    · rw [if_neg (show ¬ nI (tx_tn c t a).1 = 2 from fun q => e ((nI_eq (b := 2) (by omega) (by omega)).mp q)), iv_Bf (fun q => e q.1)]
/-- .. and taken -/
theorem j_word {b d : Bool} (h : tx_J k c t n a σ τ) {w g : Nat} (hw : w < 31) (hg : g < 24) (hwd : ∀ x, x < 24 → (tx_wd k x = w ↔ x = g)) : (∃ σ' τ', ix_F 75 [.ref 105, .int (nI w)] (ix_S0 b, σ) = some (.int 0, (ix_S0 b, σ')) ∧ ix_F 254 [.ref 135, .int (nI g)] (ix_S0 d, τ) = some (.int 0, (ix_S0 d, τ)) ∧ ix_F 255 [.ref 135, .int 1] (ix_S0 d, τ) = some (.int (-1), (ix_S0 d, τ')) ∧ tx_fa σ σ' ∧ tx_fb τ τ' ∧ tx_bad σ' τ') ∨ ∃ σ' τ', ix_F 75 [.ref 105, .int (nI w)] (ix_S0 b, σ) = some (.int 1, (ix_S0 b, σ')) ∧ ix_F 254 [.ref 135, .int (nI g)] (ix_S0 d, τ) = some (.int 1, (ix_S0 d, τ)) ∧ ix_F 233 [.ref 135] (ix_S0 d, τ) = some (.null, (ix_S0 d, τ')) ∧ tx_fa σ σ' ∧ tx_fb τ τ' ∧ tx_J k c t n (a + 1) σ' τ' := by
  obtain ⟨i1, i2⟩ := j_isW (d := d) h hw hg hwd
  by_cases e : (tx_tn c t a).1 = 2 ∧ (tx_tn c t a).2.1 = g
  · obtain ⟨σ', τ', b1, b2, b3, b4, b5, -⟩ := j_adv (b := b) (d := d) h (h.lt (by omega))
    refine Or.inr ⟨σ', τ', ?_, by rw [i2, iv_Bt e], b2, b4, b5, b3⟩
    rw [q_Parser_expect_0, if_pos (i1.mpr e), b1]
    simp only [Option.bind_some]
  · obtain ⟨σ', τ', b1, b2, b3, b4, b5⟩ := j_bl (b := b) (d := d) h 1
    refine Or.inl ⟨σ', τ', ?_, by rw [i2, iv_Bf e], b2, b4, b5, b3⟩
    rw [q_Parser_expect_0, if_neg (fun q => e (i1.mp q)), b1]
    simp only [Option.bind_some, iv_tI]
    rw [if_pos (Or.inl trivial)]
theorem tx_wds : (∀ x, x < 24 → (tx_wd 1 x = 0 ↔ x = 18)) ∧ (∀ x, x < 24 → (tx_wd 1 x = 1 ↔ x = 19)) ∧ (∀ x, x < 24 → (tx_wd 2 x = 0 ↔ x = 20)) ∧ (∀ x, x < 24 → (tx_wd 2 x = 1 ↔ x = 21)) ∧ (∀ x, x < 24 → (tx_wd 3 x = 0 ↔ x = 12)) ∧ (∀ x, x < 24 → (tx_wd 3 x = 1 ↔ x = 22)) ∧ (∀ x, x < 24 → (tx_wd 3 x = 2 ↔ x = 23)) ∧ ∀ w, w < 18 → ∀ x, x < 24 → (tx_wd 0 x = w ↔ x = w) := by decide +kernel
end Jt
