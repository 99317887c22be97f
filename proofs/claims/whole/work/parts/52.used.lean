def fB (rf : Nat → Nat → Nat) (b f : Nat) : Bool := rf f 6 == b || (rf f 0 == b || (rf f 1 == b || (rf f 2 == b || (rf f 3 == b || (rf f 4 == b || rf f 5 == b)))))
def usB (rf : Nat → Nat → Nat) (b : Nat) : Bool := fB rf b 0 || (fB rf b 1 || (fB rf b 2 || (fB rf b 3 || (fB rf b 4 || fB rf b 5))))
theorem fB_iff {rf : Nat → Nat → Nat} {b f : Nat} : fB rf b f = true ↔ ∃ i, i < 7 ∧ rf f i = b := by
  constructor
  · intro h
    simp only [fB, Bool.or_eq_true, beq_iff_eq] at h
    rcases h with h | h | h | h | h | h | h
    · exact ⟨6, by omega, h⟩
    · exact ⟨0, by omega, h⟩
    · exact ⟨1, by omega, h⟩
    · exact ⟨2, by omega, h⟩
    · exact ⟨3, by omega, h⟩
    · exact ⟨4, by omega, h⟩
    · exact ⟨5, by omega, h⟩
  · rintro ⟨i, hi, h⟩
    simp only [fB, Bool.or_eq_true, beq_iff_eq]
    have : i = 0 ∨ i = 1 ∨ i = 2 ∨ i = 3 ∨ i = 4 ∨ i = 5 ∨ i = 6 := by omega
    rcases this with e | e | e | e | e | e | e <;> subst e <;> simp [h]
theorem usB_iff {rf : Nat → Nat → Nat} {b : Nat} : usB rf b = true ↔ usd rf b := by
  constructor
  · intro h
    simp only [usB, Bool.or_eq_true, fB_iff] at h
    rcases h with h | h | h | h | h | h
    · exact ⟨0, by omega, h⟩
    · exact ⟨1, by omega, h⟩
    · exact ⟨2, by omega, h⟩
    · exact ⟨3, by omega, h⟩
    · exact ⟨4, by omega, h⟩
    · exact ⟨5, by omega, h⟩
  · rintro ⟨f, hf, h⟩
    simp only [usB, Bool.or_eq_true, fB_iff]
    have : f = 0 ∨ f = 1 ∨ f = 2 ∨ f = 3 ∨ f = 4 ∨ f = 5 := by omega
    rcases this with e | e | e | e | e | e <;> subst e <;> simp only [h, true_or, or_true]
theorem us_st {t : tj_S} {x b : Nat} (hx : 0 < x) (hx2 : x < 23) {r : Nat → Nat} (hw : ∀ i, i < 4 → t 2 (4 * x + i) = nI (r (i + 2))) (hb : b < 1000) (hr : ∀ i, i < 7 → r i < 1000) (y : Int32) (k : Int32 → tj_S → Option (Int32 × tj_S)) (n w : Nat) (h : w < 4) : f_Mod_used_L57 (nI b) y (nI x) k (n + 1) (nI w) t = if r (w + 2) = b then some (1, t) else f_Mod_used_L57 (nI b) y (nI x) k n (nI (w + 1)) t := by
  rw [f_Mod_used_L57, if_neg (by rw [show ((4 : Int32) ≤ nI w) = (4 ≤ w) from le_n (a := 4) (by omega) (by omega)]; omega), if_neg (nI_nle hx (by omega)), adr2, gd_in (by omega) (by omega), cl_n (by omega), hw w h, nm_s, nI_s]
  have := hr (w + 2) (by omega)
  by_cases e : r (w + 2) = b
  · rw [if_pos e, if_pos (by rw [e])]
  · rw [if_neg e, if_neg (by rw [eq_n (by omega) (by omega)]; exact e)]
theorem us_in {t : tj_S} {x b : Nat} (hx : 0 < x) (hx2 : x < 23) {r : Nat → Nat} (hw : ∀ i, i < 4 → t 2 (4 * x + i) = nI (r (i + 2))) (hb : b < 1000) (hr : ∀ i, i < 7 → r i < 1000) (y : Int32) (k : Int32 → tj_S → Option (Int32 × tj_S)) : f_Mod_used_L57 (nI b) y (nI x) k 100 (nI 0) t = if r 2 = b then some (1, t) else if r 3 = b then some (1, t) else if r 4 = b then some (1, t) else if r 5 = b then some (1, t) else k (nI 4) t := by
  rw [us_st hx hx2 hw hb hr y k 99 0 (by omega), us_st hx hx2 hw hb hr y k 98 1 (by omega), us_st hx hx2 hw hb hr y k 97 2 (by omega), us_st hx hx2 hw hb hr y k 96 3 (by omega)]
  rw [show f_Mod_used_L57 (nI b) y (nI x) k 96 (nI (3 + 1)) t = k (nI 4) t from by rw [f_Mod_used_L57, if_pos (by decide)]]
theorem fsF_lt {w : Nat → Int32} {n f : Nat} {r : Nat → Nat} (h : fsF w n r f) : ∀ i, i < 7 → r i < 23 := by
  obtain ⟨h0, h1, h2, h3, h4, h5, h6, h7⟩ := h
  intro i hi
  rcases Nat.lt_or_ge i 6 with h | h
  · rcases Nat.lt_or_ge (4 * i) n with q | q
    · exact ((h5 i h).1 q).2
    · rw [(h5 i h).2 q]; omega
  · have : i = 6 := by omega
    subst this
    rcases Nat.lt_or_ge 8 n with q | q
    · exact (h6 q).2.1
    · rw [h7 q]; omega
theorem us_step {t : tj_S} {len : Nat → Nat} {rf : Nat → Nat → Nat} (hR : fsR (t 2) len rf) {b : Nat} (hb0 : 0 < b) (hb : b < 1000) (k : Int32 → tj_S → Option (Int32 × tj_S)) (n : Nat) {i : Nat} (hi : i < 6) : f_Mod_used_L2 (nI b) k (n + 1) (nI i) t = if fB rf b i = true then some (1, t) else f_Mod_used_L2 (nI b) k n (nI (i + 1)) t := by
  have hF := hR.1 i hi
  have hlt := fsF_lt hF
  obtain ⟨h0, h1, h2, h3, h4, h5, h6, h7⟩ := hF
  rw [f_Mod_used_L2, if_neg (by rw [show ((6 : Int32) ≤ nI i) = (6 ≤ i) from le_n (a := 6) (by omega) (by omega)]; omega)]
  rw [show (4 * nI i + 3 : Int32) = nI (4 * i + 3) from adr2 (w := 3), show (4 * nI i + 1 : Int32) = nI (4 * i + 1) from adr2 (w := 1), show (4 * nI i + 2 : Int32) = nI (4 * i + 2) from adr2 (w := 2)]
  rw [gd_in (by omega) (by omega), cl_n (by omega), h4, nm_s]
  have l6 := hlt 6 (by omega); have l0 := hlt 0 (by omega); have l1 := hlt 1 (by omega)
  by_cases e6 : rf i 6 = b
  · rw [if_pos (by rw [e6]), if_pos (by simp [fB, e6])]
  rw [if_neg (by rw [eq_n (by omega) (by omega)]; exact e6), gd_in (by omega) (by omega), cl_n (by omega), h2]
  by_cases e0 : rf i 0 = b
  · rw [if_pos (by rw [e0]), if_pos (by simp [fB, e0])]
  rw [if_neg (by rw [eq_n (by omega) (by omega)]; exact e0), gd_in (by omega) (by omega), cl_n (by omega), h3]
  by_cases e1 : rf i 1 = b
  · rw [if_pos (by rw [e1]), if_pos (by simp [fB, e1])]
  rw [if_neg (by rw [eq_n (by omega) (by omega)]; exact e1)]
  rcases Nat.lt_or_ge 8 (len i) with q | q
  · obtain ⟨g1, g2, g3⟩ := h6 q
    have := us_in (t := t) (x := rf i 6) (b := b) (by omega) (by omega) g3 hb (fun j hj => by have := hlt j hj; omega) (nI i) (fun x20 s21 =>
              nm (nI i + Int32.ofInt 1) fun x22 =>
              f_Mod_used_L2 (nI b) k n x22 s21)
    refine Eq.trans this ?_
    by_cases e2 : rf i 2 = b
    · rw [if_pos e2, if_pos (by simp [fB, e2])]
    by_cases e3 : rf i 3 = b
    · rw [if_neg e2, if_pos e3, if_pos (by simp [fB, e3])]
    by_cases e4 : rf i 4 = b
    · rw [if_neg e2, if_neg e3, if_pos e4, if_pos (by simp [fB, e4])]
    by_cases e5 : rf i 5 = b
    · rw [if_neg e2, if_neg e3, if_neg e4, if_pos e5, if_pos (by simp [fB, e5])]
    rw [if_neg e2, if_neg e3, if_neg e4, if_neg e5, if_neg (by simp [fB, e0, e1, e2, e3, e4, e5, e6]), nm_s, nI_s]
  · have z6 := h7 q
    have z2 := (h5 2 (by omega)).2 (by omega); have z3 := (h5 3 (by omega)).2 (by omega); have z4 := (h5 4 (by omega)).2 (by omega); have z5 := (h5 5 (by omega)).2 (by omega)
    rw [z6]
    rw [show f_Mod_used_L57 (nI b) (nI i) (nI 0) (fun x20 s21 => nm (nI i + Int32.ofInt 1) fun x22 => f_Mod_used_L2 (nI b) k n x22 s21) 100 0 t = f_Mod_used_L2 (nI b) k n (nI i + Int32.ofInt 1) t from by rw [f_Mod_used_L57, if_neg (by decide), if_pos (by decide), nm_s]]
    rw [nI_s, if_neg]
    have : ¬ 0 = b := by omega
    simp [fB, e0, e1, e6, z2, z3, z4, z5, this]
theorem us_spec {t : tj_S} {len : Nat → Nat} {rf : Nat → Nat → Nat} (hR : fsR (t 2) len rf) {b : Nat} (hb0 : 0 < b) (hb : b < 1000) : f_Mod_used (nI b) t = some (if usB rf b = true then 1 else 0, t) := by
  unfold f_Mod_used
  rw [show (0 : Int32) = nI 0 from rfl, us_step hR hb0 hb _ 99 (by omega), us_step hR hb0 hb _ 98 (by omega), us_step hR hb0 hb _ 97 (by omega), us_step hR hb0 hb _ 96 (by omega), us_step hR hb0 hb _ 95 (by omega), us_step hR hb0 hb _ 94 (by omega)]
  rw [show f_Mod_used_L2 (nI b) (fun x29 s30 => some ((nI 0), s30)) 94 (nI (0 + 1 + 1 + 1 + 1 + 1 + 1)) t = some (nI 0, t) from by rw [f_Mod_used_L2, if_pos (by decide)]]
  unfold usB
  cases fB rf b 0 <;> cases fB rf b (0 + 1) <;> cases fB rf b (0 + 1 + 1) <;> cases fB rf b (0 + 1 + 1 + 1) <;> cases fB rf b (0 + 1 + 1 + 1 + 1) <;> cases fB rf b (0 + 1 + 1 + 1 + 1 + 1) <;> rfl
/-- pool block i + 7 can be taken -/
def opB (rf : Nat → Nat → Nat) (u : Int32) (i : Nat) : Bool := !usB rf (i + 7) && !bt u i
theorem op_spec {t : tj_S} {len : Nat → Nat} {rf : Nat → Nat → Nat} (hR : fsR (t 2) len rf) {i : Nat} (hi : i < 16) : f_Mod_open (nI (i + 7)) t = some (if opB rf (t 0 16) i = true then 1 else 0, t) := by
  unfold f_Mod_open
  rw [us_spec hR (by omega) (by omega), bd_s]
  rw [show (nI (i + 7) - 7 : Int32) = nI i from by rw [show (nI (i + 7) - 7 : Int32) = nI (i + 7 - 7) from pk_sub (b := 7) (by omega)]; rfl]
  unfold opB
  cases usB rf (i + 7)
  · rw [if_pos (show (if false = true then (1 : Int32) else 0) = 0 from rfl)]
    by_cases h : bt (t 0 16) i = false
    · rw [if_pos ((b_ask (by omega)).mpr h), h]; rfl
    · rw [if_neg (fun e => h ((b_ask (by omega)).mp e))]
      have h : bt (t 0 16) i = true := by simpa using h
      rw [h]; rfl
  · rw [if_pos rfl, if_neg (by decide)]; rfl
theorem ops_L {t : tj_S} {len : Nat → Nat} {rf : Nat → Nat → Nat} (hR : fsR (t 2) len rf) (k : Int32 → Int32 → tj_S → Option (Int32 × tj_S)) : ∀ n i, i ≤ 16 → 16 - i < n → f_Mod_opens_L5 k n (nI (popN (opB rf (t 0 16)) i)) (nI (i + 7)) t = k (nI (popN (opB rf (t 0 16)) 16)) (nI 23) t := by
  intro n
  induction n with
  | zero => intro i hi hn; omega
  | succ n ih =>
    intro i hi hn
    rw [f_Mod_opens_L5]
    by_cases e : i = 16
    · subst e; rw [if_pos (by decide)]
    · rw [if_neg (by rw [show ((23 : Int32) ≤ nI (i + 7)) = (23 ≤ i + 7) from le_n (a := 23) (by omega) (by omega)]; omega), op_spec hR (by omega), bd_s]
      have ih' := ih (i + 1) (by omega) (by omega)
      have c3 : popN (opB rf (t 0 16)) (i + 1) = popN (opB rf (t 0 16)) i + (opB rf (t 0 16) i).toNat := rfl
      rw [c3] at ih'
      cases hop : opB rf (t 0 16) i
      · rw [if_pos (show (if false = true then (1 : Int32) else 0) = 0 from rfl), nm_s, nI_s]
        rw [hop] at ih'
        rw [show i + 7 + 1 = i + 1 + 7 by omega]; exact ih'
      · rw [if_pos rfl, if_neg (by decide), nm_s, nm_s, nI_s, nI_1]
        rw [hop] at ih'
        rw [show i + 7 + 1 = i + 1 + 7 by omega]; exact ih'
theorem ops_spec {t : tj_S} {len : Nat → Nat} {rf : Nat → Nat → Nat} (hR : fsR (t 2) len rf) : f_Mod_opens t = some (nI (popN (opB rf (t 0 16)) 16), t) := ops_L hR (fun x15 x16 s17 => some (x15, s17)) 100 0 (by omega) (by omega)
theorem popN_congr {p q : Nat → Bool} : ∀ n, (∀ i, i < n → p i = q i) → popN p n = popN q n
  | 0, _ => rfl
  | n + 1, h => by
    show popN p n + _ = popN q n + _
    rw [popN_congr n (fun i hi => h i (by omega)), h n (by omega)]
theorem popN_hi {p : Nat → Bool} {a : Nat} : ∀ m, (∀ i, a ≤ i → i < a + m → p i = false) → popN p (a + m) = popN p a
  | 0, _ => rfl
  | m + 1, h => by
    show popN p (a + m) + (p (a + m)).toNat = _
    rw [popN_hi m (fun i h1 h2 => h i h1 (by omega)), h (a + m) (by omega) (by omega)]; rfl
theorem popN_le {p : Nat → Bool} : ∀ n, popN p n ≤ n
  | 0 => Nat.le_refl _
  | n + 1 => by
    have := popN_le (p := p) n
    show popN p n + (p n).toNat ≤ n + 1
    cases p n <;> simp <;> omega
theorem tb_spec {s : tj_S} {u w : Int32} {len : Nat → Nat} {rf : Nat → Nat → Nat} {img : Nat → Int32} (hR : fsR img len rf) (h1 : s 11 24 = img 24) (h2 : s 10 5 = u) : ∃ x : Int32, f_Mem_takeable s = some (x, s) ∧ ∀ i, i < 32 → bt x i = (decide (i < 16) && opB rf u i) := by
  refine ⟨((img 24 ||| u) ^^^ (-1 : Int32)) &&& (65535 : Int32), ?_, ?_⟩
  · unfold f_Mem_takeable f_Mem_blocksInUse
    rw [show (24 : Int32) = nI 24 from rfl, gd_in (by omega) (by omega), cl_n (by omega), bd_s, h1, h2]
  · intro i hi
    rw [b_and, b_65535, b_not hi, b_or]
    have hm := hR.2.2 i hi
    unfold opB
    by_cases h : i < 16
    · by_cases hu : usB rf (i + 7) = true
      · rw [hm.mpr ⟨h, usB_iff.mp hu⟩, hu]; simp
      · have : bt (img 24) i = false := by
          cases hq : bt (img 24) i
          · rfl
          · exact absurd (usB_iff.mpr (hm.mp hq).2) hu
        have hu' : usB rf (i + 7) = false := by simpa using hu
        rw [this, hu']; simp [h]
    · simp [h]
theorem tc_spec {s : tj_S} {u : Int32} {len : Nat → Nat} {rf : Nat → Nat → Nat} {img : Nat → Int32} (hR : fsR img len rf) (h1 : s 11 24 = img 24) (h2 : s 10 5 = u) : f_Mem_takeableCount s = some (nI (popN (opB rf u) 16), s) := by
  obtain ⟨x, hx, hb⟩ := tb_spec (w := 0) hR h1 h2
  unfold f_Mem_takeableCount
  rw [hx, bd_s, bc_spec, bd_s]
  have e1 : popN (bt x) 32 = popN (bt x) 16 := popN_hi (a := 16) 16 (fun i h1 h2 => by rw [hb i (by omega)]; simp; omega)
  have e2 : popN (bt x) 16 = popN (opB rf u) 16 := popN_congr 16 (fun i hi => by rw [hb i (by omega)]; simp [hi])
  rw [e1, e2]
