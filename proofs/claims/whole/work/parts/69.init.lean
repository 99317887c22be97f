theorem x0_v {a i : Nat} (h0 : ¬ (a = 0 ∧ i = 3)) (h1 : ¬ (a = 1 ∧ i < 2)) : X_s0 a i = 0 := by
  unfold X_s0
  split
  · next => dsimp only; rw [if_neg (by omega)]
  · next => dsimp only; rw [if_neg (by omega), if_neg (by omega)]
  · rfl
theorem m0_v {a i : Nat} (h : ¬ (a = 0 ∧ (i = 12 ∨ i = 13 ∨ i = 14))) : M_s0 a i = 0 := by
  unfold M_s0
  split
  · next => dsimp only; rw [if_neg (by omega), if_neg (by omega), if_neg (by omega)]
  · rfl
theorem pure_init : pRel X_s0 M_s0 := by
  have hz : ∀ (a i : Nat), a ≠ 0 → M_s0 a i = 0 := fun a i h => m0_v (by omega)
  have mk0 : ∀ a, a ≠ 0 → mk 0 (M_s0 a) := fun a h => mk_0 (fun i _ => hz a i h)
  have c3 : cn (M_s0 3) 23 = 0 := cn_0 (fun i _ => hz 3 i (by omega))
  have c4 : cn (M_s0 4) 23 = 0 := cn_0 (fun i _ => hz 4 i (by omega))
  have hfs : ∀ w : Nat → Int32, (∀ i, w i = 0) → fsR w (fun _ => 0) (fun _ _ => 0) := fun w hw => by
    refine ⟨fun f hf => ⟨Nat.zero_le _, hw _, hw _, hw _, hw _, fun i hi => ⟨fun q => absurd q (Nat.not_lt_zero _), fun _ => rfl⟩, fun q => absurd q (Nat.not_lt_zero _), fun _ => rfl⟩, fun f g i j _ _ _ _ q => absurd rfl q, fun i hi => ?_⟩
    rw [hw, b_0]
    constructor
    · intro q; exact absurd q (by decide)
    · rintro ⟨-, f, -, j, -, q⟩
      exact absurd q (show ¬ 0 = i + 7 by omega)
  refine ⟨0, 0, 0, fun _ => 0, fun _ => 0, fun _ => 0, fun _ => 0, fun _ _ => 0, ⟨⟨by decide, by decide, by decide, by decide⟩, ⟨by decide, by decide⟩, ⟨fun i _ => ?_, fun i _ => ?_⟩, ⟨?_, ?_, by decide⟩, ⟨by omega, by decide, by decide, fun i hi => absurd hi (by omega), fun i j hi => absurd hi (by omega)⟩, ⟨by omega, by omega, by decide, by decide, by decide, by decide, by decide, by omega, fun k hk => absurd hk (by omega)⟩, ?_⟩, fun _ => ⟨fun _ => 0, fun _ _ => 0, ?_⟩⟩
  · rw [x0_v (by omega) (by omega), hz 1 i (by omega)]
  · rw [x0_v (by omega) (by omega), hz 2 i (by omega)]
  · rw [x0_v (by omega) (by omega)]; exact mk0 3 (by omega)
  · rw [x0_v (by omega) (by omega)]; exact mk0 4 (by omega)
  · exact hfs _ (fun i => hz 1 (4 * (i / 4) + i % 4) (by omega))
  · refine ⟨hfs _ (fun i => hz 2 i (by omega)), by decide, fun i hi => absurd hi (by omega), fun f g i _ _ _ q => absurd rfl q, fun b hb _ => ⟨by rw [hz 4 b (by omega)]; decide, fun w hw => ?_⟩, fun b _ => by rw [hz 4 b (by omega)]; decide, fun ⟨b, _, q⟩ => by rw [hz 4 b (by omega)] at q; exact absurd q (by decide), by rw [c3, c4]; decide⟩
    show M_s0 2 _ = M_s0 1 _
    rw [hz 2 _ (by omega), hz 1 _ (by omega)]
