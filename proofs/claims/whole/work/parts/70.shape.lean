/-! The files' references in the words, without the lengths: what holds also in the middle of an operation -/
def fsG (w : Nat → Int32) (r : Nat → Nat) (f : Nat) : Prop :=
  w (4 * f + 1) = nI (r 0) ∧ w (4 * f + 2) = nI (r 1) ∧ w (4 * f + 3) = nI (r 6) ∧ (∀ i, i < 7 → r i < 23 ∧ (r i ≠ 0 → 7 ≤ r i)) ∧
  (r 6 ≠ 0 → ∀ i, i < 4 → w (4 * r 6 + i) = nI (r (i + 2))) ∧ (r 6 = 0 → ∀ i, 2 ≤ i → i < 6 → r i = 0)
def uniq (rf : Nat → Nat → Nat) : Prop := ∀ f g i j, f < 6 → g < 6 → i < 7 → j < 7 → rf f i ≠ 0 → rf f i = rf g j → f = g ∧ i = j
theorem fsR_G {w : Nat → Int32} {len : Nat → Nat} {rf : Nat → Nat → Nat} (h : fsR w len rf) : ∀ f, f < 6 → fsG w (rf f) f := by
  intro f hf
  have hF := h.1 f hf
  have hl := fsF_lt hF
  obtain ⟨h0, h1, h2, h3, h4, h5, h6, h7⟩ := hF
  refine ⟨h2, h3, h4, fun i hi => ⟨hl i hi, fun q => ?_⟩, fun q => ?_, fun q i i1 i2 => ?_⟩
  · rcases Nat.lt_or_ge i 6 with g | g
    · rcases Nat.lt_or_ge (4 * i) (len f) with k | k
      · exact ((h5 i g).1 k).1
      · exact absurd ((h5 i g).2 k) q
    · have : i = 6 := by omega
      subst this
      rcases Nat.lt_or_ge 8 (len f) with k | k
      · exact (h6 k).1
      · exact absurd (h7 k) q
  · rcases Nat.lt_or_ge 8 (len f) with k | k
    · exact (h6 k).2.2
    · exact absurd (h7 k) q
  · rcases Nat.lt_or_ge 8 (len f) with k | k
    · have := (h6 k).1; omega
    · exact (h5 i i2).2 (by omega)
theorem usG_step {t : tj_S} {rf : Nat → Nat → Nat} (hR : ∀ f, f < 6 → fsG (t 2) (rf f) f) {b : Nat} (hb0 : 0 < b) (hb : b < 1000) (k : Int32 → tj_S → Option (Int32 × tj_S)) (n : Nat) {i : Nat} (hi : i < 6) : f_Mod_used_L2 (nI b) k (n + 1) (nI i) t = if fB rf b i = true then some (1, t) else f_Mod_used_L2 (nI b) k n (nI (i + 1)) t := by
  obtain ⟨h2, h3, h4, h5, h6, h7⟩ := hR i hi
  have hlt : ∀ j, j < 7 → rf i j < 23 := fun j hj => (h5 j hj).1
  rw [f_Mod_used_L2, if_neg (by rw [show ((6 : Int32) ≤ nI i) = (6 ≤ i) from le_n (a := 6) (by omega) (by omega)]; omega)]
  rw [show (4 * nI i + 3 : Int32) = nI (4 * i + 3) from adr2 (w := 3), show (4 * nI i + 1 : Int32) = nI (4 * i + 1) from adr2 (w := 1), show (4 * nI i + 2 : Int32) = nI (4 * i + 2) from adr2 (w := 2)]
  rw [gd_in (by omega) (by omega), cl_n (by omega), h4, nm_s]
  have l6 := hlt 6 (by omega); have l0 := hlt 0 (by omega); have l1 := hlt 1 (by omega)
  by_cases e6 : rf i 6 = b
  · rw [if_pos (by rw [e6]), if_pos (by simp [fB, e6])]
  rw [if_neg (by rw [eq_n (by omega) (by omega)]; exact e6), gd_in (by omega) (by omega), cl_n (by omega), h2]
  by_cases e0 : rf i 0 = b
  · rw [if_pos (by rw [e0]), if_pos (by simp [fB, e0])]
  rw [if_neg (by rw [eq_n (by omega) (by omega)]; exact e0), gd_in (by omega) (by omega), cl_n (by omega), h3]
  by_cases e1 : rf i 1 = b
  · rw [if_pos (by rw [e1]), if_pos (by simp [fB, e1])]
  rw [if_neg (by rw [eq_n (by omega) (by omega)]; exact e1)]
  by_cases q : rf i 6 = 0
  · have z2 := h7 q 2 (by omega) (by omega); have z3 := h7 q 3 (by omega) (by omega); have z4 := h7 q 4 (by omega) (by omega); have z5 := h7 q 5 (by omega) (by omega)
    rw [q]
    rw [show f_Mod_used_L57 (nI b) (nI i) (nI 0) (fun x20 s21 => nm (nI i + Int32.ofInt 1) fun x22 => f_Mod_used_L2 (nI b) k n x22 s21) 100 0 t = f_Mod_used_L2 (nI b) k n (nI i + Int32.ofInt 1) t from by rw [f_Mod_used_L57, if_neg (by decide), if_pos (by decide), nm_s]]
    rw [nI_s, if_neg]
    have : ¬ 0 = b := by omega
    simp [fB, e0, e1, e6, z2, z3, z4, z5, this]
  · have g3 := h6 q
    have := us_in (t := t) (x := rf i 6) (b := b) (by omega) (by omega) g3 hb (fun j hj => by have := hlt j hj; omega) (nI i) (fun x20 s21 =>
              nm (nI i + Int32.ofInt 1) fun x22 =>
              f_Mod_used_L2 (nI b) k n x22 s21)
    refine Eq.trans this ?_
    by_cases e2 : rf i 2 = b
    · rw [if_pos e2, if_pos (by simp [fB, e2])]
    by_cases e3 : rf i 3 = b
    · rw [if_neg e2, if_pos e3, if_pos (by simp [fB, e3])]
    by_cases e4 : rf i 4 = b
    · rw [if_neg e2, if_neg e3, if_pos e4, if_pos (by simp [fB, e4])]
    by_cases e5 : rf i 5 = b
    · rw [if_neg e2, if_neg e3, if_neg e4, if_pos e5, if_pos (by simp [fB, e5])]
    rw [if_neg e2, if_neg e3, if_neg e4, if_neg e5, if_neg (by simp [fB, e0, e1, e2, e3, e4, e5, e6]), nm_s, nI_s]
theorem usG_spec {t : tj_S} {rf : Nat → Nat → Nat} (hR : ∀ f, f < 6 → fsG (t 2) (rf f) f) {b : Nat} (hb0 : 0 < b) (hb : b < 1000) : f_Mod_used (nI b) t = some (if usB rf b = true then 1 else 0, t) := by
  unfold f_Mod_used
  rw [show (0 : Int32) = nI 0 from rfl, usG_step hR hb0 hb _ 99 (by omega), usG_step hR hb0 hb _ 98 (by omega), usG_step hR hb0 hb _ 97 (by omega), usG_step hR hb0 hb _ 96 (by omega), usG_step hR hb0 hb _ 95 (by omega), usG_step hR hb0 hb _ 94 (by omega)]
  rw [show f_Mod_used_L2 (nI b) (fun x29 s30 => some ((nI 0), s30)) 94 (nI (0 + 1 + 1 + 1 + 1 + 1 + 1)) t = some (nI 0, t) from by rw [f_Mod_used_L2, if_pos (by decide)]]
  unfold usB
  cases fB rf b 0 <;> cases fB rf b (0 + 1) <;> cases fB rf b (0 + 1 + 1) <;> cases fB rf b (0 + 1 + 1 + 1) <;> cases fB rf b (0 + 1 + 1 + 1 + 1) <;> cases fB rf b (0 + 1 + 1 + 1 + 1 + 1) <;> rfl
/-- the map word holds the used blocks -/
def mapW (x : Int32) (rf : Nat → Nat → Nat) : Prop := ∀ i, i < 32 → bt x i = (decide (i < 16) && usB rf (i + 7))
theorem mapW_uniq {x y : Int32} {rf : Nat → Nat → Nat} (h1 : mapW x rf) (h2 : mapW y rf) : x = y := b_ext (fun i hi => by rw [h1 i hi, h2 i hi])
theorem fsR_map {w : Nat → Int32} {len : Nat → Nat} {rf : Nat → Nat → Nat} (h : fsR w len rf) : mapW (w 24) rf := by
  intro i hi
  have hm := h.2.2 i hi
  cases hb : bt (w 24) i
  · cases hd : (decide (i < 16) && usB rf (i + 7))
    · rfl
    · rw [Bool.and_eq_true] at hd
      have := hm.mpr ⟨of_decide_eq_true hd.1, usB_iff.mp hd.2⟩
      rw [hb] at this; exact absurd this (by decide)
  · obtain ⟨q1, q2⟩ := hm.mp hb
    rw [decide_eq_true q1, usB_iff.mpr q2]; rfl
theorem map_fsR {w : Nat → Int32} {rf : Nat → Nat → Nat} (h : mapW (w 24) rf) : ∀ i, i < 32 → (bt (w 24) i = true ↔ i < 16 ∧ usd rf (i + 7)) := by
  intro i hi
  rw [h i hi, Bool.and_eq_true, usB_iff, decide_eq_true_iff]
theorem rm_L {t : tj_S} {rf : Nat → Nat → Nat} (hR : ∀ f, f < 6 → fsG (t 2) (rf f) f) (k : Int32 → Int32 → tj_S → Option tj_S) : ∀ m i n (x : Int32), i + m = 16 → (∀ j, j < 32 → bt x j = (decide (j < i) && usB rf (j + 7))) → ∃ x1, f_Mod_remap_L5 k (n + m + 1) x (nI (i + 7)) t = k x1 (nI 23) t ∧ mapW x1 rf := by
  intro m
  induction m with
  | zero =>
    intro i n x h hx
    have : i = 16 := by omega
    subst this
    rw [f_Mod_remap_L5, if_pos (by decide)]
    exact ⟨x, rfl, hx⟩
  | succ m ih =>
    intro i n x h hx
    rw [show n + (m + 1) + 1 = (n + m + 1) + 1 by omega, f_Mod_remap_L5, if_neg (by rw [show ((23 : Int32) ≤ nI (i + 7)) = (23 ≤ i + 7) from le_n (a := 23) (by omega) (by omega)]; omega), usG_spec hR (by omega) (by omega), bd_s]
    rw [show (nI (i + 7) - 7 : Int32) = nI i from by rw [show (nI (i + 7) - 7 : Int32) = nI (i + 7 - 7) from pk_sub (b := 7) (by omega)]; rfl, nI_s, show i + 7 + 1 = i + 1 + 7 by omega]
    cases hu : usB rf (i + 7)
    · rw [if_pos (show (if false = true then (1 : Int32) else 0) = 0 from rfl), nm_s]
      refine ih (i + 1) n x (by omega) (fun j hj => ?_)
      rw [hx j hj]
      by_cases q : j = i
      · subst q; rw [hu]; simp
      · by_cases q2 : j < i
        · simp [q2, show j < i + 1 by omega]
        · simp [q2, show ¬ j < i + 1 by omega]
    · rw [if_neg (show ¬ (if true = true then (1 : Int32) else 0) = 0 from by decide), nm_s, nm_s]
      refine ih (i + 1) n _ (by omega) (fun j hj => ?_)
      rw [b_or, hx j hj, b_bit (by omega) hj]
      by_cases q : j = i
      · subst q; rw [hu]; simp
      · by_cases q2 : j < i
        · simp [q2, show j < i + 1 by omega, q]
        · simp [q2, show ¬ j < i + 1 by omega, q]
/-- the reference's map is made anew; it is the map word that stands, or will stand, with the references -/
theorem rm_spec {t : tj_S} {rf : Nat → Nat → Nat} (hR : ∀ f, f < 6 → fsG (t 2) (rf f) f) {x : Int32} (hx : mapW x rf) : f_Mod_remap t = some (up2 (up2 t 2 24 x) 3 6 1) := by
  unfold f_Mod_remap
  obtain ⟨x1, h1, h2⟩ := rm_L hR (fun x15 x16 s17 =>
    gd (inb (24 : Int32) 92) <|
    nm (up2 s17 2 (Int32.toNatClampNeg (24 : Int32)) x15) fun s19 =>
    gd (inb (6 : Int32) 23) <|
    nm (up2 s19 3 (Int32.toNatClampNeg (6 : Int32)) (vp_nar .boolean (1 : Int32))) fun s21 =>
    some s21) 16 0 83 0 (by omega) (fun j hj => by rw [b_0]; simp)
  rw [show (83 + 16 + 1 : Nat) = 100 from rfl] at h1
  have e := mapW_uniq h2 hx
  subst e
  refine Eq.trans h1 ?_
  rw [gd_t (show inb (24 : Int32) 92 = true from by decide +kernel), nm_s, gd_t (show inb (6 : Int32) 23 = true from by decide +kernel), nm_s, show (24 : Int32).toNatClampNeg = 24 from by decide +kernel, show (6 : Int32).toNatClampNeg = 6 from by decide +kernel, vn01 (Or.inr rfl)]
