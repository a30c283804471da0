/-! the image: what of a world and of its view counts -/
def iv_rc (z i : Nat) : Prop := z = 1 ∧ i = 5 ∨ z = 2 ∧ i < 8 ∨ 3 ≤ z ∧ z ≤ 8 ∧ i < 12 ∨ z = 9 ∧ i = 1 ∨ z = 10 ∧ i < 600 ∨ z = 12 ∧ (i = 7 ∨ i = 8) ∨ z = 13 ∧ i < 400 ∨ 14 ≤ z ∧ z ≤ 17 ∧ i < 16 ∨ z = 20 ∧ i < 12 ∨ 21 ≤ z ∧ z ≤ 22 ∧ i < 16 ∨ 23 ≤ z ∧ z ≤ 24 ∧ i < 6 ∨ z = 25 ∧ i < 4 ∨ z = 26 ∧ i < 12 ∨ z = 27 ∧ i < 20
def iv_rv (f i : Nat) : Prop := f = 0 ∧ i < 54 ∨ f = 1 ∧ i < 7 ∨ 2 ≤ f ∧ f ≤ 6 ∧ i < 12 ∨ f = 7 ∧ i < 20 ∨ f = 8 ∧ i < 32 ∨ f = 9 ∧ i < 48 ∨ f = 10 ∧ i < 600 ∨ 11 ≤ f ∧ f ≤ 14 ∧ i < 16 ∨ 15 ≤ f ∧ f ≤ 16 ∧ i < 400
theorem iv_run_cg {op arg op' arg' : Nat → Int32} : ∀ k a tys out, (∀ i, a ≤ i → i < a + k → op' i = op i ∧ arg' i = arg i) → iv_run op arg k a tys out → iv_run op' arg' k a tys out
  | 0, _, _, _, _, h => h
  | k + 1, a, tys, out, e, h => by
    obtain ⟨t, h1, h2, h3⟩ := h
    obtain ⟨e1, e2⟩ := e a (Nat.le_refl _) (by omega)
    exact ⟨t, by rw [e1, e2]; exact h1, h2, iv_run_cg k (a + 1) t out (fun i h4 h5 => e i (by omega) (by omega)) h3⟩
theorem iv_fst_cg {sea sea' : Nat → Int32} {m : Nat} {land : Int32} {r : Option Nat} (hm : m ≤ 16) (e : ∀ i, i < 48 → sea' i = sea i) (h : iv_fst sea m land r) : iv_fst sea' m land r := by
  cases r with
  | none => exact fun j hj => by rw [e _ (by omega)]; exact h j hj
  | some k =>
    obtain ⟨h1, h2, h3⟩ := h
    exact ⟨h1, by rw [e _ (by omega)]; exact h2, fun j hj => by rw [e _ (by omega)]; exact h3 j hj⟩
theorem iv_wor_ag {c c' v v' : ix_St} {M n o : Nat} (hn : n ≤ 12) (hc : ∀ z i, iv_rc z i → c' z i = c z i) (hv : ∀ f i, iv_rv f i → v' f i = v f i) (h : iv_wor c v M n o) : iv_wor c' v' M n o := by
  obtain ⟨h1, ⟨⟨h2, k, hk, h3, h4⟩, h5⟩, ⟨h6, h7, h8, h9⟩, h10, h11, h12, h13, h14, m, hm, h15, h16, h17, h18⟩ := h
  have C : ∀ z i, iv_rc z i → c' z i = c z i := hc
  have V : ∀ f i, iv_rv f i → v' f i = v f i := hv
  refine ⟨?_, ⟨⟨?_, k, hk, ?_, ?_⟩, fun j hj => ?_⟩, ⟨?_, ?_, ?_, ?_⟩, fun i hi => ?_, ?_, ?_, ?_, fun i hi => ?_, m, hm, ?_, ?_, fun j hj => ?_, fun j hj => ?_⟩
  · have h1' := iv_riv_eq (f' := c' 2) (ra' := c' 3) (ch' := c' 4) (ta' := c' 5) (fi' := c' 6) (wa' := c' 7) (tu' := c' 8) (now' := v' 0) h1 hn (fun i hi => C 2 i (by unfold iv_rc; omega)) (fun i hi => ⟨C 3 i (by unfold iv_rc; omega), C 4 i (by unfold iv_rc; omega), C 5 i (by unfold iv_rc; omega), C 6 i (by unfold iv_rc; omega), C 7 i (by unfold iv_rc; omega), C 8 i (by unfold iv_rc; omega)⟩) (fun i hi => V 0 i (by unfold iv_rv; omega))
    rw [V 1 0 (by unfold iv_rv; omega)]
    obtain ⟨a1, a2, a3, a4, a5⟩ := h1'
    refine ⟨a1, a2, a3, fun i hi => ?_, a5⟩
    rw [V 2 i (by unfold iv_rv; omega), V 3 i (by unfold iv_rv; omega), V 4 i (by unfold iv_rv; omega)]
    exact a4 i hi
  · rw [V 1 1 (by unfold iv_rv; omega)]; exact h2
  · rw [C 9 1 (by unfold iv_rc; omega)]; exact h3
  · rw [V 0 2 (by unfold iv_rv; omega)]; exact h4
  · rw [C 10 j (by unfold iv_rc; omega), V 10 j (by unfold iv_rv; omega)]; exact h5 j hj
  · rw [C 25 0 (by unfold iv_rc; omega), V 1 6 (by unfold iv_rv; omega)]; exact h6
  · rw [C 25 1 (by unfold iv_rc; omega), V 1 2 (by unfold iv_rv; omega)]; exact h7
  · rw [C 25 2 (by unfold iv_rc; omega), V 1 3 (by unfold iv_rv; omega)]; exact h8
  · rw [C 25 3 (by unfold iv_rc; omega), V 1 4 (by unfold iv_rv; omega)]; exact h9
  · rw [C 20 i (by unfold iv_rc; omega), V 5 i (by unfold iv_rv; omega)]; exact h10 i hi
  · obtain ⟨q, q1, q2, q3⟩ := h11
    refine ⟨q, q1, ?_, fun k hk => ?_⟩
    · rw [V 1 3 (by unfold iv_rv; omega)]; exact q2
    · rw [C 21 k (by unfold iv_rc; omega), C 22 k (by unfold iv_rc; omega), V 8 (2 * k) (by unfold iv_rv; omega), V 8 (2 * k + 1) (by unfold iv_rv; omega)]; exact q3 k hk
  · obtain ⟨q, q1, q2, q3, q4⟩ := h12
    refine ⟨q, q1, ?_, fun k hk => ?_, fun l hl => ?_⟩
    · rw [V 1 4 (by unfold iv_rv; omega)]; exact q2
    · rw [V 9 (3 * k) (by unfold iv_rv; omega), V 9 (3 * k + 1) (by unfold iv_rv; omega), V 9 (3 * k + 2) (by unfold iv_rv; omega)]; exact q3 k hk
    · obtain ⟨r, r1, r2⟩ := q4 l hl
      refine ⟨r, iv_fst_cg q1 (fun i hi => V 9 i (by unfold iv_rv; omega)) r1, ?_⟩
      cases r with
      | none =>
        show c' 23 l = 0
        rw [C 23 l (by unfold iv_rc; omega)]; exact r2
      | some k =>
        have hk : k < q := r1.1
        show c' 23 l = v' 9 (3 * k + 1) ∧ c' 24 l = v' 9 (3 * k + 2)
        rw [C 23 l (by unfold iv_rc; omega), C 24 l (by unfold iv_rc; omega), V 9 (3 * k + 1) (by unfold iv_rv; omega), V 9 (3 * k + 2) (by unfold iv_rv; omega)]; exact r2
  · obtain ⟨nl, z, l1, l2, l3, l4, l5, l6, l7⟩ := h13
    refine ⟨nl, z, l1, ?_, ?_, l4, ?_, fun i hi => ?_, fun l hl => ?_⟩
    · rw [C 12 7 (by unfold iv_rc; omega)]; exact l2
    · rw [V 1 6 (by unfold iv_rv; omega)]; exact l3
    · rw [C 12 8 (by unfold iv_rc; omega)]; exact l5
    · rw [C 13 i (by unfold iv_rc; omega), V 15 i (by unfold iv_rv; omega), V 16 i (by unfold iv_rv; omega)]; exact l6 i hi
    · obtain ⟨p1, p2, a, b, c0, p3, p4, p5, p6, p7, p8, p9, p10, p11, ⟨t, p12, p13⟩, p14⟩ := l7 l hl
      have opa : ∀ i, i < z → v' 15 i = v 15 i ∧ v' 16 i = v 16 i := fun i hi => ⟨V 15 i (by unfold iv_rv; omega), V 16 i (by unfold iv_rv; omega)⟩
      rw [C 14 l (by unfold iv_rc; omega), C 15 l (by unfold iv_rc; omega), C 16 l (by unfold iv_rc; omega), C 17 l (by unfold iv_rc; omega), V 11 l (by unfold iv_rv; omega), V 12 l (by unfold iv_rv; omega), V 13 l (by unfold iv_rv; omega), V 14 l (by unfold iv_rv; omega)]
      exact ⟨p1, p2, a, b, c0, p3, p4, p5, p6, p7, p8, p9, p10, p11, ⟨t, p12, iv_run_cg _ _ _ _ (fun i h1 h2 => opa i (by omega)) p13⟩, fun hlt => iv_run_cg _ _ _ _ (fun i h1 h2 => opa i (by omega)) (p14 hlt)⟩
  · rw [C 26 i (by unfold iv_rc; omega), V 6 i (by unfold iv_rv; omega)]; exact h14 i hi
  · rw [C 1 5 (by unfold iv_rc; omega)]; exact h15
  · rw [V 1 5 (by unfold iv_rv; omega)]; exact h16
  · rw [C 27 j (by unfold iv_rc; omega), V 7 j (by unfold iv_rv; omega)]; exact h17 j hj
  · rw [C 27 j (by unfold iv_rc; omega)]; exact h18 j hj
/-! the class's copying -/
def iv_wc (p q : Nat) : List (Nat × Nat × Nat) → ix_St → ix_St
  | [], σ => σ
  | (c, s, n) :: L, σ => iv_wc p q L (match n with
    | 0 => ix_up σ (q + c) s (σ (p + c) s)
    | n + 1 => ix_cp σ (p + c) (q + c) 0 0 (n + 1))
theorem iv_cpn2 {σ : ix_St} {p q c n : Nat} (h : c ≠ q) : ix_cp σ p q 0 0 n c = σ c := by
  show (if c = q then _ else _) = _
  rw [if_neg h]
theorem iv_cp_at {σ : ix_St} {p q n i : Nat} : ix_cp σ p q 0 0 n q i = if i < n then σ p i else σ q i := by
  show (if q = q then va_cpy (σ p) (σ q) 0 0 n else σ q) i = _
  rw [if_pos rfl]
  by_cases h : i < n
  · rw [pk_cpy_in (by omega) (by omega), if_pos h]
    congr 1
    omega
  · rw [pk_cpy_out (by omega), if_neg h]
theorem iv_wc_o {p q : Nat} {z : Nat} : ∀ (L : List (Nat × Nat × Nat)) (σ : ix_St), (∀ e ∈ L, q + e.1 ≠ z) → iv_wc p q L σ z = σ z
  | [], _, _ => rfl
  | (c, s, n) :: L, σ, h => by
    have h1 : z ≠ q + c := fun e => h (c, s, n) List.mem_cons_self e.symm
    refine (iv_wc_o L _ (fun e he => h e (List.mem_cons_of_mem _ he))).trans ?_
    cases n with
    | zero => exact iv_upn h1
    | succ n => exact iv_cpn2 h1
theorem iv_wc_d {p q : Nat} (hpq : p + 27 ≤ q ∨ q + 27 ≤ p) (σ0 : ix_St) {c i : Nat} : ∀ (L : List (Nat × Nat × Nat)) (σ : ix_St), (∀ e ∈ L, 1 ≤ e.1 ∧ e.1 ≤ 27) → (∀ d, 1 ≤ d → d ≤ 27 → σ (p + d) = σ0 (p + d)) → (σ (q + c) i = σ0 (p + c) i ∨ ∃ e ∈ L, e.1 = c ∧ (e.2.2 = 0 ∧ e.2.1 = i ∨ i < e.2.2)) → iv_wc p q L σ (q + c) i = σ0 (p + c) i
  | [], σ, _, _, h => by
    rcases h with h | ⟨e, he, -⟩
    · exact h
    · cases he
  | (d, s, n) :: L, σ, hL, hs, h => by
    have hd := hL (d, s, n) List.mem_cons_self
    have hsrc : σ (p + d) = σ0 (p + d) := hs d hd.1 hd.2
    refine iv_wc_d hpq σ0 L _ (fun e he => hL e (List.mem_cons_of_mem _ he)) (fun d' h1 h2 => ?_) ?_
    · cases n with
      | zero => exact (iv_upn (by omega)).trans (hs d' h1 h2)
      | succ n => exact (iv_cpn2 (by omega)).trans (hs d' h1 h2)
    · by_cases hdc : d = c
      · subst hdc
        rcases h with h | ⟨e, he, h1, h2⟩
        · refine Or.inl ?_
          cases n with
          | zero =>
            show ix_up σ (q + d) s (σ (p + d) s) (q + d) i = _
            show (if q + d = q + d then upd (σ (q + d)) s (σ (p + d) s) else σ (q + d)) i = _
            rw [if_pos rfl]
            by_cases hi : i = s
            · rw [hi, pk_us, hsrc]
            · rw [pk_un hi]; exact h
          | succ n =>
            show ix_cp σ (p + d) (q + d) 0 0 (n + 1) (q + d) i = _
            rw [iv_cp_at]
            by_cases hi : i < n + 1
            · rw [if_pos hi, hsrc]
            · rw [if_neg hi]; exact h
        · rcases List.mem_cons.mp he with rfl | he
          · refine Or.inl ?_
            cases n with
            | zero =>
              have hsi : s = i := by rcases h2 with h2 | h2; exact h2.2; exact absurd h2 (by simp)
              show (if q + d = q + d then upd (σ (q + d)) s (σ (p + d) s) else σ (q + d)) i = _
              rw [if_pos rfl, hsi, pk_us, hsrc]
            | succ n =>
              have hin : i < n + 1 := by rcases h2 with h2 | h2; exact absurd h2.1 (by simp); exact h2
              show ix_cp σ (p + d) (q + d) 0 0 (n + 1) (q + d) i = _
              rw [iv_cp_at, if_pos hin, hsrc]
          · exact Or.inr ⟨e, he, h1, h2⟩
      · rcases h with h | ⟨e, he, h1, h2⟩
        · refine Or.inl ?_
          cases n with
          | zero => exact (congrFun (iv_upn (by omega)) i).trans h
          | succ n => exact (congrFun (iv_cpn2 (by omega)) i).trans h
        · rcases List.mem_cons.mp he with rfl | he
          · exact absurd h1 hdc
          · exact Or.inr ⟨e, he, h1, h2⟩
def iv_ops : List (Nat × Nat × Nat) := [(2, 0, 0), (2, 1, 0), (2, 2, 0), (2, 3, 0), (2, 4, 0), (2, 5, 0), (2, 6, 0), (2, 7, 0), (3, 0, 12), (4, 0, 12), (5, 0, 12), (6, 0, 12), (7, 0, 12), (8, 0, 12), (9, 1, 0), (10, 0, 600), (25, 0, 0), (12, 8, 0), (12, 7, 0), (13, 0, 400), (14, 0, 16), (15, 0, 16), (16, 0, 16), (17, 0, 16), (25, 1, 0), (20, 0, 12), (25, 2, 0), (21, 0, 16), (22, 0, 16), (25, 3, 0), (23, 0, 6), (24, 0, 6), (26, 0, 12), (27, 0, 20), (1, 5, 0)]
theorem iv_ops_in : ∀ e ∈ iv_ops, 1 ≤ e.1 ∧ e.1 ≤ 27 := by decide
theorem iv_ops_of {z i : Nat} (h : iv_rc z i) : ∃ e ∈ iv_ops, e.1 = z ∧ (e.2.2 = 0 ∧ e.2.1 = i ∨ i < e.2.2) := by
  unfold iv_rc at h
  rcases h with h | h | h | h | h | h | h | h | h | h | h | h | h | h
  · exact ⟨(1, 5, 0), by decide, h.1.symm, Or.inl ⟨rfl, h.2.symm⟩⟩
  · exact ⟨(2, i, 0), by
      have : i = 0 ∨ i = 1 ∨ i = 2 ∨ i = 3 ∨ i = 4 ∨ i = 5 ∨ i = 6 ∨ i = 7 := by omega
      rcases this with rfl | rfl | rfl | rfl | rfl | rfl | rfl | rfl <;> decide, h.1.symm, Or.inl ⟨rfl, rfl⟩⟩
  · exact ⟨(z, 0, 12), by
      have : z = 3 ∨ z = 4 ∨ z = 5 ∨ z = 6 ∨ z = 7 ∨ z = 8 := by omega
      rcases this with rfl | rfl | rfl | rfl | rfl | rfl <;> decide, rfl, Or.inr h.2.2⟩
  · exact ⟨(9, 1, 0), by decide, h.1.symm, Or.inl ⟨rfl, h.2.symm⟩⟩
  · exact ⟨(10, 0, 600), by decide, h.1.symm, Or.inr h.2⟩
  · exact ⟨(12, i, 0), by rcases h.2 with rfl | rfl <;> decide, h.1.symm, Or.inl ⟨rfl, rfl⟩⟩
  · exact ⟨(13, 0, 400), by decide, h.1.symm, Or.inr h.2⟩
  · exact ⟨(z, 0, 16), by
      have : z = 14 ∨ z = 15 ∨ z = 16 ∨ z = 17 := by omega
      rcases this with rfl | rfl | rfl | rfl <;> decide, rfl, Or.inr h.2.2⟩
  · exact ⟨(20, 0, 12), by decide, h.1.symm, Or.inr h.2⟩
  · exact ⟨(z, 0, 16), by
      have : z = 21 ∨ z = 22 := by omega
      rcases this with rfl | rfl <;> decide, rfl, Or.inr h.2.2⟩
  · exact ⟨(z, 0, 6), by
      have : z = 23 ∨ z = 24 := by omega
      rcases this with rfl | rfl <;> decide, rfl, Or.inr h.2.2⟩
  · exact ⟨(25, i, 0), by
      have : i = 0 ∨ i = 1 ∨ i = 2 ∨ i = 3 := by omega
      rcases this with rfl | rfl | rfl | rfl <;> decide, h.1.symm, Or.inl ⟨rfl, rfl⟩⟩
  · exact ⟨(26, 0, 12), by decide, h.1.symm, Or.inr h.2⟩
  · exact ⟨(27, 0, 20), by decide, h.1.symm, Or.inr h.2⟩
theorem iv_ops_z {q z : Nat} (h : z ≤ q ∨ q + 27 < z) : ∀ e ∈ iv_ops, q + e.1 ≠ z := fun e he => by have := iv_ops_in e he; omega
set_option maxRecDepth 100000 in
theorem f_imgTo (b : Bool) (σ : ix_St) : ix_F 154 [.ref 28, .ref 1] (ix_S0 b, σ) = some (.null, (ix_S0 b, iv_wc 0 27 iv_ops σ)) := by
  rw [q_World_copyFrom_0_1, q_River_copyFrom_0_14]
  simp only [Option.bind_some]
  rw [q_Book_copyFrom_0_1]
  simp only [Option.bind_some]
  rw [q_World_copyFrom_24_1, if_neg (by decide), q_Texts_take_0_2, if_neg (by decide), if_neg (by decide), if_pos rfl, q_Law_copyFrom_0_2]
  simp only [Option.bind_some]
  rw [q_World_copyFrom_24_1, if_neg (by decide), q_Texts_take_0_2, if_neg (by decide), if_neg (by decide), if_neg (by decide), if_pos (by decide)]
  simp only [Option.bind_some]
  rw [q_World_copyFrom_24_1, if_neg (by decide), q_Texts_take_0_2, if_neg (by decide), if_neg (by decide), if_neg (by decide), if_neg (by decide), if_pos (by decide)]
  simp only [Option.bind_some]
  rw [q_World_copyFrom_24_1, if_neg (by decide), q_Texts_take_0_2, if_neg (by decide), if_neg (by decide), if_neg (by decide), if_neg (by decide), if_neg (by decide)]
  simp only [Option.bind_some]
  rw [q_World_copyFrom_24_1, if_pos (by decide)]
  rfl
set_option maxRecDepth 100000 in
theorem f_imgOf (b : Bool) (σ : ix_St) : ix_F 154 [.ref 1, .ref 28] (ix_S0 b, σ) = some (.null, (ix_S0 b, iv_wc 27 0 iv_ops σ)) := by
  rw [q_World_copyFrom_0, q_River_copyFrom_0_13]
  simp only [Option.bind_some]
  rw [q_Book_copyFrom_0]
  simp only [Option.bind_some]
  rw [q_World_copyFrom_24, if_neg (by decide), q_Texts_take_0_1, if_neg (by decide), if_neg (by decide), if_pos rfl, q_Law_copyFrom_0_1]
  simp only [Option.bind_some]
  rw [q_World_copyFrom_24, if_neg (by decide), q_Texts_take_0_1, if_neg (by decide), if_neg (by decide), if_neg (by decide), if_pos (by decide)]
  simp only [Option.bind_some]
  rw [q_World_copyFrom_24, if_neg (by decide), q_Texts_take_0_1, if_neg (by decide), if_neg (by decide), if_neg (by decide), if_neg (by decide), if_pos (by decide)]
  simp only [Option.bind_some]
  rw [q_World_copyFrom_24, if_neg (by decide), q_Texts_take_0_1, if_neg (by decide), if_neg (by decide), if_neg (by decide), if_neg (by decide), if_neg (by decide)]
  simp only [Option.bind_some]
  rw [q_World_copyFrom_24, if_pos (by decide)]
  rfl
