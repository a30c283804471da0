/-! what holds between the calls: the class's cells (of σ) beside the reference's (of τ) -/
/-- a river (its ints f and its rows) beside a row of the reference's (now), with what isn't in it -/
def iv_riv (f ra ch ta fi wa tu now : Nat → Int32) (st : Int32) (mc mt mf : Nat → Int32) (M n o : Nat) : Prop :=
  (f 0 = now 1 ∧ f 1 = now 3 ∧ f 2 = now 4 ∧ f 3 = st ∧ f 4 = now 0 ∧ f 5 = now 5 ∧ f 6 = nI n ∧ f 7 = nI o) ∧
  (iv_in (f 1) 5 ∧ iv_in (f 3) 9 ∧ iv_in (f 4) M) ∧
  (o < 2 ^ n ∧ ∀ i, i < 12 → now (18 + i) = iv_B (o.testBit i = true)) ∧
  (∀ i, i < 12 → ra i = now (6 + i) ∧ ch i = mc i ∧ ta i = mt i ∧ fi i = mf i ∧ wa i = now (30 + i) ∧ tu i = now (42 + i)) ∧
  ∀ i, i < n → ra i ∈ ix_rnk
/-- the types on the stack that a law's steps leave: 0 a number, 1 so or not so, 2 a number that is written and isn't 0 -/
def iv_ts (tys : List Nat) (op arg : Int32) : Option (List Nat) :=
  if op = 0 then some ((if arg = 0 then 0 else 2) :: tys)
  else if op = 1 then some (0 :: tys)
  else if op = 2 ∨ op = 3 ∨ op = 4 then (match tys with
    | a :: b :: r => if a ≠ 1 ∧ b ≠ 1 then some (0 :: r) else none
    | _ => none)
  else if op = 5 then (match tys with
    | 2 :: b :: r => if b ≠ 1 then some (0 :: r) else none
    | _ => none)
  else if op = 6 ∨ op = 7 ∨ op = 8 then (match tys with
    | a :: b :: r => if a ≠ 1 ∧ b ≠ 1 then some (1 :: r) else none
    | _ => none)
  else if op = 9 then (match tys with
    | 1 :: r => some (1 :: r)
    | _ => none)
  else if op = 10 ∨ op = 11 then (match tys with
    | 1 :: 1 :: r => some (1 :: r)
    | _ => none)
  else none
/-- steps a, a + 1 .. (k of them) bring the types tys to the types out, never more than 32 deep -/
def iv_run (op arg : Nat → Int32) : Nat → Nat → List Nat → List Nat → Prop
  | 0, _, tys, out => tys = out
  | k + 1, a, tys, out => ∃ t, iv_ts tys (op a) (arg a) = some t ∧ t.length ≤ 32 ∧ iv_run op arg k (a + 1) t out
/-- a step of the class's law beside one of the reference's -/
def iv_enc (s op arg : Int32) : Prop :=
  (op = 0 ∧ ∃ k : Nat, k ≤ 9999 ∧ arg = nI k ∧ s = nI (64 * k + 33)) ∨ (op = 1 ∧ ∃ k : Nat, k ≤ 10 ∧ arg = nI k ∧ s = nI (7 + k)) ∨
  (op = 2 ∧ s = 43) ∨ (op = 3 ∧ s = 45) ∨ (op = 4 ∧ s = 42) ∨ (op = 5 ∧ s = 47) ∨ (op = 6 ∧ s = 60) ∨ (op = 7 ∧ s = 61) ∨ (op = 8 ∧ s = 62) ∨ (op = 9 ∧ s = 6) ∨ (op = 10 ∧ s = 5) ∨ (op = 11 ∧ s = 4)
/-- a law: class (lines, size, steps, word, from, when, until) beside reference (lines, word, from, when, to, op, arg) -/
def iv_law (f steps cw cf cn cu : Nat → Int32) (ml : Int32) (mw mf mn mu op arg : Nat → Int32) : Prop :=
  ∃ n z : Nat, n ≤ 16 ∧ f 7 = nI n ∧ ml = nI n ∧ z ≤ 400 ∧ f 8 = nI z ∧ (∀ i, i < z → iv_enc (steps i) (op i) (arg i)) ∧
  ∀ l, l < n → iv_in (cw l) 2 ∧ cw l = mw l ∧ ∃ a b c : Nat, a ≤ b ∧ b ≤ c ∧ c ≤ z ∧ cf l = nI a ∧ mf l = nI a ∧ cn l = nI b ∧ mn l = nI b ∧ cu l = nI c ∧ mu l = nI c ∧
    (∃ t, t ≠ 1 ∧ iv_run op arg (b - a) a [] [t]) ∧ (b < c → iv_run op arg (c - b) b [] [1])
/-- the ferry's log -/
def iv_log (rows stays logged : Nat → Int32) (c : Int32) : Prop := ∃ m : Nat, m ≤ 16 ∧ c = nI m ∧ ∀ k, k < m → rows k = logged (2 * k) ∧ stays k = logged (2 * k + 1)
/-- the first line of the seasons that speaks of a land -/
def iv_fst (sea : Nat → Int32) (m : Nat) (land : Int32) (r : Option Nat) : Prop := match r with
  | some k => k < m ∧ sea (3 * k) = land ∧ ∀ j, j < k → sea (3 * j) ≠ land
  | none => ∀ j, j < m → sea (3 * j) ≠ land
def iv_sea (behind becomes sea : Nat → Int32) (c : Int32) : Prop := ∃ m : Nat, m ≤ 16 ∧ c = nI m ∧
  (∀ k, k < m → iv_in (sea (3 * k)) 5 ∧ (∃ a : Nat, 1 ≤ a ∧ a ≤ 99 ∧ sea (3 * k + 1) = nI a) ∧ iv_in (sea (3 * k + 2)) 5) ∧
  ∀ l, l < 6 → ∃ r, iv_fst sea m (nI l) r ∧ match r with
    | some k => behind l = sea (3 * k + 1) ∧ becomes l = sea (3 * k + 2)
    | none => behind l = 0
/-- the class's world c beside a view of the reference's: 0 now, 1 numbers, 2 child, 3 talk, 4 firm, 5 ears, 6 bribes, 7 seen, 8 log, 9 seasons, 10 book, 11 to 16 the law -/
def iv_wor (c v : ix_St) (M n o : Nat) : Prop :=
  iv_riv (c 2) (c 3) (c 4) (c 5) (c 6) (c 7) (c 8) (v 0) (v 1 0) (v 2) (v 3) (v 4) M n o ∧
  ((v 1 1 = nI n ∧ (∃ k : Nat, k ≤ 150 ∧ c 9 1 = nI k ∧ v 0 2 = nI k)) ∧ ∀ j, j < 600 → c 10 j = v 10 j) ∧
  (c 25 0 = v 1 6 ∧ c 25 1 = v 1 2 ∧ c 25 2 = v 1 3 ∧ c 25 3 = v 1 4) ∧
  (∀ i, i < 12 → c 20 i = v 5 i ∧ (n ≤ i → c 20 i = 0)) ∧
  iv_log (c 21) (c 22) (v 8) (v 1 3) ∧ iv_sea (c 23) (c 24) (v 9) (v 1 4) ∧
  iv_law (c 12) (c 13) (c 14) (c 15) (c 16) (c 17) (v 1 6) (v 11) (v 12) (v 13) (v 14) (v 15) (v 16) ∧
  (∀ i, i < 12 → c 26 i = v 6 i + 1 ∧ iv_in (c 26 i) 99) ∧
  ∃ m : Nat, m ≤ 20 ∧ c 1 5 = nI m ∧ v 1 5 = nI m ∧ (∀ j, j < 20 → c 27 j = v 7 j) ∧ ∀ j, j < m → iv_in (c 27 j) 5
/-- the reference as it stands, so viewed -/
def iv_mv (τ : ix_St) : ix_St
  | 0 => τ 136
  | 1 => fun i => match i with
    | 0 => τ 135 6
    | 1 => τ 135 7
    | 2 => τ 135 35
    | 3 => τ 135 37
    | 4 => τ 135 39
    | 5 => τ 135 47
    | _ => τ 145 0
  | 2 => τ 139
  | 3 => τ 140
  | 4 => τ 141
  | 5 => τ 153
  | 6 => τ 162
  | 7 => τ 161
  | 8 => τ 154
  | 9 => τ 155
  | 10 => τ 142
  | 11 => τ 146
  | 12 => τ 147
  | 13 => τ 148
  | 14 => τ 149
  | 15 => τ 150
  | _ => τ 151
/-- the reference's image, so viewed -/
def iv_im (g : Nat → Int32) : ix_St
  | 0 => g
  | 1 => fun i => match i with
    | 0 => g 54
    | 1 => g 55
    | 2 => g 56
    | 3 => g 57
    | 4 => g 58
    | 5 => g 59
    | _ => g 820
  | 2 => fun i => g (60 + 5 * i)
  | 3 => fun i => g (61 + 5 * i)
  | 4 => fun i => g (62 + 5 * i)
  | 5 => fun i => g (63 + 5 * i)
  | 6 => fun i => g (64 + 5 * i)
  | 7 => fun i => g (120 + i)
  | 8 => fun i => g (140 + i)
  | 9 => fun i => g (172 + i)
  | 10 => fun i => g (220 + i)
  | 11 => fun i => g (821 + 4 * i)
  | 12 => fun i => g (822 + 4 * i)
  | 13 => fun i => g (823 + 4 * i)
  | 14 => fun i => g (824 + 4 * i)
  | 15 => fun i => g (885 + 2 * i)
  | _ => fun i => g (886 + 2 * i)
/-- the latest acts: the class's ring beside the reference's rows -/
def iv_past (σ τ : ix_St) (M n : Nat) : Prop := ∃ p q : Nat, p < 6 ∧ q ≤ 6 ∧ σ 55 2 = nI p ∧ σ 55 3 = nI q ∧ τ 135 3 = nI q ∧ ∀ j, j < q → ∃ s o : Nat, s < 6 ∧ s = (p + 6 - q + j) % 6 ∧
  iv_riv (σ (58 + 7 * s)) (σ (59 + 7 * s)) (σ (60 + 7 * s)) (σ (61 + 7 * s)) (σ (62 + 7 * s)) (σ (63 + 7 * s)) (σ (64 + 7 * s)) (fun i => τ 137 (54 * j + i)) (τ 135 6) (τ 139) (τ 140) (τ 141) M n o ∧ σ 57 s = τ 137 (54 * j + 2) ∧ iv_in (σ 57 s) 150
def iv_tape (σ τ : ix_St) : Prop := ∃ t : Nat, t ≤ 400 ∧ σ 100 1 = nI t ∧ τ 135 13 = nI t ∧ ∀ i, i < t → ∃ c : Nat, c < 256 ∧ τ 143 i = nI c ∧ σ 101 i = (nI c).toInt8.toInt32
def iv_words : List Int32 := [32, 115, 119, 97, 121, 32, 97, 98, 115, 116, 97, 105, 110, 32, 115, 104, 101, 108, 108, 115, 32, 119, 104, 101, 110, 32, 111, 114, 32, 97, 110, 100, 32, 110, 111, 116, 32, 99, 104, 105, 108, 100, 32, 116, 97, 108, 107, 32, 102, 105, 114, 109, 32, 119, 97, 100, 101, 100, 32, 116, 117, 114, 110, 101, 100, 32, 98, 97, 110, 107, 32, 97, 103, 101, 32, 115, 116, 114, 101, 97, 109, 32, 109, 105, 110, 117, 116, 101, 32, 97, 98, 111, 97, 114, 100, 32, 102, 111, 114, 32, 112, 97, 115, 115, 101, 110, 103, 101, 114, 32, 104, 101, 97, 114, 115, 32, 114, 111, 119, 32, 115, 116, 97, 121, 32, 98, 101, 104, 105, 110, 100, 32, 105, 115, 32]
def iv_oth (σ τ : ix_St) : Prop := (σ 105 1 = τ 135 33 ∧ σ 105 2 = τ 135 34) ∧ τ 135 5 = 0 ∧ ∀ i, i < 135 → τ 144 i = iv_words.getD i 0
def iv_img (σ τ : ix_St) (M : Nat) : Prop := σ 0 7 = τ 135 51 ∧ (τ 135 51 = 0 ∨ τ 135 51 = 1 ∧ ∃ n o, n ≤ 12 ∧ iv_wor (fun j => σ (j + 27)) (iv_im (τ 163)) M n o)
/-- behind k calls -/
def iv_R (k : Nat) (σ τ : ix_St) : Prop := ∃ n o, n ≤ 12 ∧ iv_wor σ (iv_mv τ) (192 * k) n o ∧ iv_past σ τ (192 * k) n ∧ iv_tape σ τ ∧ iv_oth σ τ ∧ iv_img σ τ (192 * k)
theorem iv_riv_up {f ra ch ta fi wa tu now : Nat → Int32} {st : Int32} {mc mt mf : Nat → Int32} {M N n o : Nat} (hM : M ≤ N) (h : iv_riv f ra ch ta fi wa tu now st mc mt mf M n o) : iv_riv f ra ch ta fi wa tu now st mc mt mf N n o := by
  obtain ⟨h1, ⟨h2, h3, k, hk, h4⟩, h5⟩ := h
  exact ⟨h1, ⟨h2, h3, k, by omega, h4⟩, h5⟩
theorem iv_wor_up {c v : ix_St} {M N n o : Nat} (hM : M ≤ N) (h : iv_wor c v M n o) : iv_wor c v N n o := ⟨iv_riv_up hM h.1, h.2⟩
theorem iv_past_up {σ τ : ix_St} {M N n : Nat} (hM : M ≤ N) (h : iv_past σ τ M n) : iv_past σ τ N n := by
  obtain ⟨p, q, h1, h2, h3, h4, h5, h6⟩ := h
  refine ⟨p, q, h1, h2, h3, h4, h5, fun j hj => ?_⟩
  obtain ⟨s, o, h7, h8, h9, h10⟩ := h6 j hj
  exact ⟨s, o, h7, h8, iv_riv_up hM h9, h10⟩
theorem iv_img_up {σ τ : ix_St} {M N : Nat} (hM : M ≤ N) (h : iv_img σ τ M) : iv_img σ τ N := by
  obtain ⟨h1, h2 | ⟨h2, n, o, h3, h4⟩⟩ := h
  · exact ⟨h1, Or.inl h2⟩
  · exact ⟨h1, Or.inr ⟨h2, n, o, h3, iv_wor_up hM h4⟩⟩
theorem iv_R_up {k l : Nat} {σ τ : ix_St} (h : k ≤ l) (hR : iv_R k σ τ) : iv_R l σ τ := by
  obtain ⟨n, o, h1, h2, h3, h4, h5, h6⟩ := hR
  have hM : 192 * k ≤ 192 * l := by omega
  exact ⟨n, o, h1, iv_wor_up hM h2, iv_past_up hM h3, h4, h5, iv_img_up hM h6⟩
/-- what holds hangs on the class's cells of the one and the reference's of the other alone -/
theorem iv_R_cong {k : Nat} {σ σ' τ τ' : ix_St} (hs : ∀ c, c < 135 → σ' c = σ c) (ht : ∀ c, 135 ≤ c → c < 164 → τ' c = τ c) (hR : iv_R k σ τ) : iv_R k σ' τ' := by
  obtain ⟨n, o, h1, h2, h3, h4, h5, h6⟩ := hR
  have hm : iv_mv τ' = iv_mv τ := by
    funext f
    unfold iv_mv
    split
    all_goals first
      | exact ht _ (by omega) (by omega)
      | (rw [ht 135 (by omega) (by omega), ht 145 (by omega) (by omega)])
  refine ⟨n, o, h1, ?_, ?_, ?_, ?_, ?_⟩
  · rw [hm]
    unfold iv_wor at h2 ⊢
    simp only [hs _ (show 1 < 135 by omega), hs _ (show 2 < 135 by omega), hs _ (show 3 < 135 by omega), hs _ (show 4 < 135 by omega), hs _ (show 5 < 135 by omega), hs _ (show 6 < 135 by omega), hs _ (show 7 < 135 by omega), hs _ (show 8 < 135 by omega), hs _ (show 9 < 135 by omega), hs _ (show 10 < 135 by omega), hs _ (show 12 < 135 by omega), hs _ (show 13 < 135 by omega), hs _ (show 14 < 135 by omega), hs _ (show 15 < 135 by omega), hs _ (show 16 < 135 by omega), hs _ (show 17 < 135 by omega), hs _ (show 20 < 135 by omega), hs _ (show 21 < 135 by omega), hs _ (show 22 < 135 by omega), hs _ (show 23 < 135 by omega), hs _ (show 24 < 135 by omega), hs _ (show 25 < 135 by omega), hs _ (show 26 < 135 by omega), hs _ (show 27 < 135 by omega)]
    exact h2
  · obtain ⟨p, q, h7, h8, h9, h10, h11, h12⟩ := h3
    refine ⟨p, q, h7, h8, ?_, ?_, ?_, fun j hj => ?_⟩
    · rw [hs 55 (by omega)]; exact h9
    · rw [hs 55 (by omega)]; exact h10
    · rw [ht 135 (by omega) (by omega)]; exact h11
    · obtain ⟨s, o, h13, h14, h15, h16⟩ := h12 j hj
      refine ⟨s, o, h13, h14, ?_, ?_⟩
      · rw [hs _ (show 58 + 7 * s < 135 by omega), hs _ (show 59 + 7 * s < 135 by omega), hs _ (show 60 + 7 * s < 135 by omega), hs _ (show 61 + 7 * s < 135 by omega), hs _ (show 62 + 7 * s < 135 by omega), hs _ (show 63 + 7 * s < 135 by omega), hs _ (show 64 + 7 * s < 135 by omega), ht 137 (by omega) (by omega), ht 135 (by omega) (by omega), ht 139 (by omega) (by omega), ht 140 (by omega) (by omega), ht 141 (by omega) (by omega)]
        exact h15
      · rw [hs 57 (by omega), ht 137 (by omega) (by omega)]
        exact h16
  · unfold iv_tape at h4 ⊢
    rw [hs 100 (by omega), hs 101 (by omega), ht 135 (by omega) (by omega), ht 143 (by omega) (by omega)]
    exact h4
  · unfold iv_oth at h5 ⊢
    rw [hs 105 (by omega), ht 135 (by omega) (by omega), ht 144 (by omega) (by omega)]
    exact h5
  · unfold iv_img iv_wor at h6 ⊢
    rw [hs 0 (by omega), ht 135 (by omega) (by omega), ht 163 (by omega) (by omega)]
    simp only [Nat.reduceAdd, hs _ (show 28 < 135 by omega), hs _ (show 29 < 135 by omega), hs _ (show 30 < 135 by omega), hs _ (show 31 < 135 by omega), hs _ (show 32 < 135 by omega), hs _ (show 33 < 135 by omega), hs _ (show 34 < 135 by omega), hs _ (show 35 < 135 by omega), hs _ (show 36 < 135 by omega), hs _ (show 37 < 135 by omega), hs _ (show 39 < 135 by omega), hs _ (show 40 < 135 by omega), hs _ (show 41 < 135 by omega), hs _ (show 42 < 135 by omega), hs _ (show 43 < 135 by omega), hs _ (show 44 < 135 by omega), hs _ (show 47 < 135 by omega), hs _ (show 48 < 135 by omega), hs _ (show 49 < 135 by omega), hs _ (show 50 < 135 by omega), hs _ (show 51 < 135 by omega), hs _ (show 52 < 135 by omega), hs _ (show 53 < 135 by omega), hs _ (show 54 < 135 by omega)] at h6 ⊢
    exact h6
/-- class and reference, each on its own heap, answer alike and hold what holds; E: what is given (script, RANKS, texts) -/
def iv_S (E : ix_St) (x m : Nat) (as : List Value) : Prop := ∀ k b c σ τ, k < 512 → (∀ z, 900 ≤ z → σ z = E z ∧ τ z = E z) → iv_R k σ τ → ∃ v b' σ' τ', ix_F x (.ref 0 :: as) (ix_S0 b, σ) = some (.int v, (ix_S0 b', σ')) ∧ ix_F m (.ref 135 :: as) (ix_S0 c, τ) = some (.int v, (ix_S0 c, τ')) ∧ iv_R (k + 1) σ' τ'
/-- what holds between calls of both on one heap -/
def iv_J (E : ix_St) (k : Nat) (σ : ix_St) : Prop := iv_R k σ σ ∧ ∀ z, 900 ≤ z → σ z = E z
theorem iv_srX {as : List Value} (h : ∀ v ∈ as, ∃ y, v = .int y) : ix_sr ix_GX (.ref 0 :: as) := by
  refine ix_sr_c (ix_vr_ref rfl) (fun v hv => ?_)
  obtain ⟨y, rfl⟩ := h v hv
  exact ix_vr_int y
theorem iv_srM {as : List Value} (h : ∀ v ∈ as, ∃ y, v = .int y) : ix_sr ix_GM (.ref 135 :: as) := by
  refine ix_sr_c (ix_vr_ref rfl) (fun v hv => ?_)
  obtain ⟨y, rfl⟩ := h v hv
  exact ix_vr_int y
theorem iv_one {E : ix_St} {x m : Nat} {as : List Value} (hx : ix_nc x = true) (hm : ix_nc m = true) (has : ∀ v ∈ as, ∃ y, v = .int y) (hS : iv_S E x m as) (k : Nat) (b : Bool) (σ : ix_St) (hk : k < 512) (h : iv_J E k σ) : ∃ v b' σ1 σ2, ix_F x (.ref 0 :: as) (ix_S0 b, σ) = some (.int v, (ix_S0 b', σ1)) ∧ ix_F m (.ref 135 :: as) (ix_S0 b', σ1) = some (.int v, (ix_S0 b', σ2)) ∧ iv_J E (k + 1) σ2 := by
  obtain ⟨hR, hE⟩ := h
  obtain ⟨v, b', σ1, τ1, e1, -, -⟩ := hS k b b σ σ hk (fun z hz => ⟨hE z hz, hE z hz⟩) hR
  have f1 : ∀ c, 135 ≤ c → σ1 c = σ c := fun c hc => ix_frX hx (iv_srX has) e1 c hc
  obtain ⟨v2, b2, σ2, τ2, e2, e3, h3⟩ := hS k b b' σ σ1 hk (fun z hz => ⟨hE z hz, (f1 z (by omega)).trans (hE z hz)⟩) (iv_R_cong (fun _ _ => rfl) (fun c hc _ => f1 c hc) hR)
  rw [e1] at e2
  simp only [Option.some.injEq, Prod.mk.injEq, Value.int.injEq] at e2
  obtain ⟨rfl, h4, rfl⟩ := e2
  refine ⟨v, b', σ1, τ2, e1, e3, ?_, fun z hz => ?_⟩
  · exact iv_R_cong (fun c hc => ix_frM hm (iv_srM has) e3 c (Or.inl hc)) (fun _ _ _ => rfl) h3
  · exact (ix_frM hm (iv_srM has) e3 z (Or.inr (by omega))).trans ((f1 z (by omega)).trans (hE z hz))
theorem iv_keepS {x : Nat} {as : List Value} {b b' : Bool} {σ σ' : ix_St} {v : Value} (hx : ix_kd x ≠ 0) (e : ix_F x as (ix_S0 b, σ) = some (v, (ix_S0 b', σ'))) : ix_S0 b' = ix_S0 b := by
  obtain ⟨n, hn⟩ := ix_S_iff.mp e
  exact (ix_sem_pr n _ _ _ _ _ _ _ hx hn).1
