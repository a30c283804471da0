/-! the start: what holds before the first call -/
section St
variable {σ : ix_St}
theorem is_z (c j : Nat) (hc : c < 164) (h1 : c ≠ 26) (h2 : c ≠ 53) (h3 : c ≠ 144) (h4 : c = 105 → j ≠ 2) (h5 : c = 135 → j ≠ 34) : ig_29 σ c j = 0 := by
  rw [iz_all.2 c j, is_lk_none, if_pos hc]
  · rfl
  · intro e he q
    have h := List.all_eq_true.mp is_all_z e he
    simp only [Bool.or_eq_true, Bool.and_eq_true, beq_iff_eq] at h
    omega
theorem is_o (c : Nat) (hc : 164 ≤ c) : ig_29 σ c = σ c := by
  funext j
  rw [iz_all.2 c j, is_lk_none, if_neg (by omega)]
  · rfl
  · intro e he q
    have := iz_all (σ := σ) |>.1 e he
    omega
theorem is_w (i : Nat) (hi : i < 135) : ig_29 σ 144 i = iv_words.getD i 0 := by
  rw [iz_all.2 144 i, is_all_w i hi]
  rfl
theorem is_b (i : Nat) (hi : i < 12) : ig_29 σ 26 i = 1 := by
  rw [iz_all.2 26 i, is_all_b i hi]
  rfl
theorem is_m : ig_29 σ 135 34 = -1 ∧ ig_29 σ 105 2 = -1 := by
  rw [iz_all.2 135 34, iz_all.2 105 2, is_all_m.1, is_all_m.2]
  exact ⟨rfl, rfl⟩
theorem is_R0 : iv_R 0 (ig_29 σ) (ig_29 σ) := by
  obtain ⟨m1, m2⟩ := is_m (σ := σ)
  have z : ∀ c j, c < 164 → c ≠ 26 → c ≠ 53 → c ≠ 144 → c ≠ 105 → c ≠ 135 → ig_29 σ c j = 0 := fun c j h0 h1 h2 h3 h4 h5 => is_z c j h0 h1 h2 h3 (fun q => absurd q h4) (fun q => absurd q h5)
  have z135 : ∀ j, j ≠ 34 → ig_29 σ 135 j = 0 := fun j hj => is_z 135 j (by omega) (by omega) (by omega) (by omega) (fun q => by omega) (fun _ => hj)
  have w := is_w (σ := σ)
  have b := is_b (σ := σ)
  have z105 : ig_29 σ 105 1 = 0 := is_z 105 1 (by omega) (by omega) (by omega) (by omega) (fun _ => by omega) (fun q => by omega)
  generalize ig_29 σ = τ at *
  have y : ∀ c, c < 164 → c ≠ 26 → c ≠ 53 → c ≠ 144 → c ≠ 105 → c ≠ 135 → τ c = fun _ => 0 := fun c h0 h1 h2 h3 h4 h5 => funext fun j => z c j h0 h1 h2 h3 h4 h5
  have i0 : ∀ m : Nat, iv_in 0 m := fun m => ⟨0, Nat.zero_le _, rfl⟩
  refine ⟨0, 0, by omega, ⟨?_, ⟨⟨?_, ⟨0, by omega, ?_, ?_⟩⟩, fun j _ => ?_⟩, ⟨?_, ?_, ?_, ?_⟩, fun i _ => ?_, ?_, ?_, ?_, fun i hi => ?_, ⟨0, by omega, ?_, ?_, fun j _ => ?_, fun j hj => absurd hj (by omega)⟩⟩, ⟨0, 0, by omega, by omega, ?_, ?_, ?_, fun j hj => absurd hj (by omega)⟩, ⟨0, by omega, ?_, ?_, fun i hi => absurd hi (by omega)⟩, ⟨⟨?_, ?_⟩, ?_, w⟩, ?_, Or.inl ?_⟩
  · show iv_riv (τ 2) (τ 3) (τ 4) (τ 5) (τ 6) (τ 7) (τ 8) (τ 136) (τ 135 6) (τ 139) (τ 140) (τ 141) _ 0 0
    rw [y 2 (by omega) (by omega) (by omega) (by omega) (by omega) (by omega), y 3 (by omega) (by omega) (by omega) (by omega) (by omega) (by omega), y 4 (by omega) (by omega) (by omega) (by omega) (by omega) (by omega), y 5 (by omega) (by omega) (by omega) (by omega) (by omega) (by omega), y 6 (by omega) (by omega) (by omega) (by omega) (by omega) (by omega), y 7 (by omega) (by omega) (by omega) (by omega) (by omega) (by omega), y 8 (by omega) (by omega) (by omega) (by omega) (by omega) (by omega), y 136 (by omega) (by omega) (by omega) (by omega) (by omega) (by omega), y 139 (by omega) (by omega) (by omega) (by omega) (by omega) (by omega), y 140 (by omega) (by omega) (by omega) (by omega) (by omega) (by omega), y 141 (by omega) (by omega) (by omega) (by omega) (by omega) (by omega), z135 6 (by omega)]
    refine ⟨⟨rfl, rfl, rfl, rfl, rfl, rfl, rfl, rfl⟩, ⟨i0 _, i0 _, i0 _⟩, ⟨by decide, fun i _ => ?_⟩, fun i _ => ⟨rfl, rfl, rfl, rfl, rfl, rfl⟩, fun i hi => absurd hi (by omega)⟩
    rw [iv_Bf (by rw [Nat.zero_testBit]; decide)]
  · exact z135 7 (by omega)
  · exact z 9 1 (by omega) (by omega) (by omega) (by omega) (by omega) (by omega)
  · exact z 136 2 (by omega) (by omega) (by omega) (by omega) (by omega) (by omega)
  · exact (z 10 j (by omega) (by omega) (by omega) (by omega) (by omega) (by omega)).trans (z 142 j (by omega) (by omega) (by omega) (by omega) (by omega) (by omega)).symm
  · exact (z 25 0 (by omega) (by omega) (by omega) (by omega) (by omega) (by omega)).trans (z 145 0 (by omega) (by omega) (by omega) (by omega) (by omega) (by omega)).symm
  · exact (z 25 1 (by omega) (by omega) (by omega) (by omega) (by omega) (by omega)).trans (z135 35 (by omega)).symm
  · exact (z 25 2 (by omega) (by omega) (by omega) (by omega) (by omega) (by omega)).trans (z135 37 (by omega)).symm
  · exact (z 25 3 (by omega) (by omega) (by omega) (by omega) (by omega) (by omega)).trans (z135 39 (by omega)).symm
  · have h20 := z 20 i (by omega) (by omega) (by omega) (by omega) (by omega) (by omega)
    exact ⟨h20.trans (z 153 i (by omega) (by omega) (by omega) (by omega) (by omega) (by omega)).symm, fun _ => h20⟩
  · exact ⟨0, by omega, z135 37 (by omega), fun k hk => absurd hk (by omega)⟩
  · exact ⟨0, by omega, z135 39 (by omega), fun k hk => absurd hk (by omega), fun l hl => ⟨none, fun j hj => absurd hj (by omega), z 23 l (by omega) (by omega) (by omega) (by omega) (by omega) (by omega)⟩⟩
  · exact ⟨0, 0, by omega, z 12 7 (by omega) (by omega) (by omega) (by omega) (by omega) (by omega), z 145 0 (by omega) (by omega) (by omega) (by omega) (by omega) (by omega), by omega, z 12 8 (by omega) (by omega) (by omega) (by omega) (by omega) (by omega), fun i hi => absurd hi (by omega), fun l hl => absurd hl (by omega)⟩
  · have h62 : τ 162 i = 0 := z 162 i (by omega) (by omega) (by omega) (by omega) (by omega) (by omega)
    show τ 26 i = τ 162 i + 1 ∧ iv_in (τ 26 i) 99
    rw [b i hi, h62]
    exact ⟨by decide, 1, by omega, rfl⟩
  · exact z 1 5 (by omega) (by omega) (by omega) (by omega) (by omega) (by omega)
  · exact z135 47 (by omega)
  · exact (z 27 j (by omega) (by omega) (by omega) (by omega) (by omega) (by omega)).trans (z 161 j (by omega) (by omega) (by omega) (by omega) (by omega) (by omega)).symm
  · exact z 55 2 (by omega) (by omega) (by omega) (by omega) (by omega) (by omega)
  · exact z 55 3 (by omega) (by omega) (by omega) (by omega) (by omega) (by omega)
  · exact z135 3 (by omega)
  · exact z 100 1 (by omega) (by omega) (by omega) (by omega) (by omega) (by omega)
  · exact z135 13 (by omega)
  · rw [z105, z135 33 (by omega)]
  · rw [m1, m2]
  · exact z135 5 (by omega)
  · rw [z 0 7 (by omega) (by omega) (by omega) (by omega) (by omega) (by omega), z135 51 (by omega)]
  · exact z135 51 (by omega)
end St
theorem is_S0 : is_183 = ix_S0 false := rfl
theorem is_lawE {L : Nat} (hL : L ≤ 3072) (xs : Nat → Int32) : iv_all (ix_s0 L xs) := by
  have hG : ∀ j, j < 120 → ix_s0 L xs 1001 j = ix_rnk.getD j 0 := fun j _ => rfl
  have hT : tx_Es (ix_s0 L xs) := (ix_s0_Xs hL xs).2.2.2.2
  exact ⟨s_state _, fun a0 a1 a2 a3 h => s_passenger _ a0 a1 a2 a3 h, s_set _, s_cross _, fun a0 a1 h => s_stay _ a0 a1 h, s_log _, s_feed _, s_end _, s_text _ hT, s_fault _, s_of _, s_sway _, s_season _, s_book _, s_would _, s_makes _, s_pivots _, s_beats _, s_wins _ hG, s_boats _, s_reaches _, s_alike _, s_middle _ hG, s_seen _, s_began _, s_bribe _, s_costs _, s_game _, s_undo _, fun a0 h => s_image _ a0 h, s_look _⟩
/-- all turns of the law -/
theorem is_turns {E : ix_St} {L : Nat} (hL : L ≤ 3072) (hE : E 999 0 = nI L) (hA : iv_all E) : ∀ (m k : Nat) (b : Bool) (σ : ix_St), L - 6 * k = m → 6 * k ≤ L → iv_J E k σ → ∃ b' σ', ix_S 0 37 18 [some (.ref 1000), some (.ref 0), some (.ref 135), some (.int (nI (6 * k)))] [] (ix_S0 b, σ) = some (.int 1, (ix_S0 b', σ')) := by
  intro m
  induction m using Nat.strongRecOn with
  | ind m ih =>
    intro k b σ hm hkL h
    by_cases hi : 6 * k + 6 ≤ L
    · obtain ⟨b1, σ1, g1, g2⟩ := iv_turn hL hE hA (b := b) (show k < 512 by omega) hi h
      obtain ⟨b2, σ2, g3⟩ := ih (L - 6 * (k + 1)) (by omega) (k + 1) b1 σ1 rfl (by omega) g2
      exact ⟨b2, σ2, by rw [g1]; exact g3⟩
    · refine ⟨b, σ, ?_⟩
      have h9 : σ 999 0 = nI L := by rw [h.2 999 (by omega)]; exact hE
      rw [q_Law0_law_18, h9, nI_clamp (by omega), if_pos]
      rw [iv_lt]
      have e1 : (Int32.ofNat L - (6 : Int32)).toInt = (L : Int) - (6 : Nat) := pk_sub_toInt (a := L) (b := 6) (by omega) (by omega)
      rw [e1, nI_toInt (by omega)]
      omega
/-- the interpreter answers 1 on the law -/
theorem is_run {L : Nat} (hL : L ≤ 3072) (xs : Nat → Int32) : ∃ n b σ, ix_sem n 0 (ix_rk 0 [.ref 1000]) 0 (ix_in 0 [.ref 1000]) [] ([], ix_s0 L xs) = some (.int 1, (ix_S0 b, σ)) := by
  have hJ : iv_J (ix_s0 L xs) 0 (ig_29 (ix_s0 L xs)) := ⟨is_R0, fun z hz => is_o z (by omega)⟩
  obtain ⟨b, σ, h⟩ := is_turns hL (E := ix_s0 L xs) rfl (is_lawE hL xs) L 0 false _ (by omega) (by omega) hJ
  have h1 : ix_F 0 [.ref 1000] (is_0, ix_s0 L xs) = some (.int 1, (ix_S0 b, σ)) := by
    rw [ic_29, is_S0]
    exact h
  obtain ⟨n, hn⟩ := ix_S_iff.mp h1
  exact ⟨n, b, σ, hn⟩
theorem is_len (b : Bool) : (ix_S0 b).length ≤ 600000 ∧ ix_sz (ix_S0 b) ≤ 7302250 := by cases b <;> decide +kernel
