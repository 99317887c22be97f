/-! The relation between the class's state s and the reference's state t, with the invariant -/
def mk (x : Int32) (f : Nat → Int32) : Prop := (∀ i, i < 32 → bt x i = (decide (i < 23) && decide (f i = 1))) ∧ ∀ i, i < 23 → f i = 0 ∨ f i = 1
def cn (f : Nat → Int32) : Nat → Nat
  | 0 => 0
  | n + 1 => cn f n + (if f n = 1 then 1 else 0)
def szf (c r : Nat) : Nat := c + (c + 3) / 4 + (r + 3) / 4 + 1
def hs (t : tj_S) (k : Nat) : Nat → Int32 := fun b => t 6 (23 * k + b)
def gn (t : tj_S) (k : Nat) : Nat → Int32 := fun b => t 7 (23 * k + b)
/-- block b's word w as a mount would bring it back: the latest copy with no later revoke, else home -/
def rcv (t : tj_S) (b w : Nat) : Nat → Int32
  | 0 => t 1 (4 * b + w)
  | k + 1 => if hs t k b = 1 then t 8 (92 * k + 4 * b + w) else if gn t k b = 1 then t 1 (4 * b + w) else rcv t b w k
def rci (t : tj_S) (c : Nat) : Nat → Int32 := fun i => rcv t (i / 4) (i % 4) c
def usd (rf : Nat → Nat → Nat) (b : Nat) : Prop := ∃ f, f < 6 ∧ ∃ i, i < 7 ∧ rf f i = b
/-- a file f of length n with references r 0 .. r 5 (data), r 6 (index) in the words w -/
def fsF (w : Nat → Int32) (n : Nat) (r : Nat → Nat) (f : Nat) : Prop :=
  n ≤ 24 ∧ w (4 * f) = nI n ∧ w (4 * f + 1) = nI (r 0) ∧ w (4 * f + 2) = nI (r 1) ∧ w (4 * f + 3) = nI (r 6) ∧
  (∀ i, i < 6 → (4 * i < n → 7 ≤ r i ∧ r i < 23) ∧ (n ≤ 4 * i → r i = 0)) ∧
  (8 < n → 7 ≤ r 6 ∧ r 6 < 23 ∧ ∀ i, i < 4 → w (4 * r 6 + i) = nI (r (i + 2))) ∧ (n ≤ 8 → r 6 = 0)
def fsR (w : Nat → Int32) (len : Nat → Nat) (rf : Nat → Nat → Nat) : Prop :=
  (∀ f, f < 6 → fsF w (len f) (rf f) f) ∧
  (∀ f g i j, f < 6 → g < 6 → i < 7 → j < 7 → rf f i ≠ 0 → rf f i = rf g j → f = g ∧ i = j) ∧
  ∀ i, i < 32 → (bt (w 24) i = true ↔ i < 16 ∧ usd rf (i + 7))
def rPow (s t : tj_S) : Prop := s 1 0 = t 0 12 ∧ s 1 1 = t 0 14 ∧ s 1 2 = t 0 15 ∧ (t 0 12 = 0 ∨ t 0 12 = 1)
def rMode (s t : tj_S) : Prop := s 0 3 = t 0 13 ∧ (t 0 13 = 0 ∨ t 0 13 = 1 ∨ t 0 13 = 2)
def rWrd (s t : tj_S) : Prop := (∀ i, i < 92 → s 3 i = t 1 i) ∧ ∀ i, i < 92 → s 11 i = t 2 i
def rMsk (s t : tj_S) : Prop := mk (s 10 3) (t 3) ∧ mk (s 10 4) (t 4) ∧ s 10 5 = t 0 16
def rDir (s t : tj_S) (d : Nat) (e : Nat → Nat) : Prop := d ≤ 16 ∧ s 10 2 = nI d ∧ t 0 5 = nI d ∧ (∀ i, i < d → s 12 i = nI (e i) ∧ t 5 i = nI (e i) ∧ 7 ≤ e i ∧ e i < 23) ∧ ∀ i j, i < d → j < d → e i = e j → i = j
/-- transaction k: its size, its place in the ring (ab k, not reduced), its sets, its words -/
def rTx (s t : tj_S) (o : Nat) (z ab : Nat → Nat) (k : Nat) : Prop :=
  ab (k + 1) = ab k + z k ∧ s 7 ((o + k) % 8) = nI (z k) ∧ t 9 k = nI (z k) ∧ s 6 ((o + k) % 8) = nI (ab k % 24) ∧
  mk (s 8 ((o + k) % 8)) (hs t k) ∧ mk (s 9 ((o + k) % 8)) (gn t k) ∧
  z k = szf (cn (hs t k) 23) (cn (gn t k) 23) ∧ 0 < cn (hs t k) 23 ∧
  ∀ b, b < 23 → hs t k b = 1 → ∀ w, w < 4 → s 5 (4 * ((ab k + cn (hs t k) b + cn (hs t k) b / 4 + 1) % 24) + w) = t 8 (92 * k + 4 * b + w)
def rLog (s t : tj_S) (c o : Nat) (z ab : Nat → Nat) : Prop :=
  c ≤ 8 ∧ o < 8 ∧ s 4 6 = nI c ∧ t 0 10 = nI c ∧ s 4 5 = nI o ∧ s 4 7 = nI (ab c % 24) ∧ t 0 11 = nI (ab c % 24) ∧ ab c ≤ ab 0 + 24 ∧ ∀ k, k < c → rTx s t o z ab k
def rUp (t : tj_S) (c d : Nat) (e len : Nat → Nat) (rf rfC : Nat → Nat → Nat) : Prop :=
  fsR (t 2) len rf ∧ t 0 16 = rci t c 24 ∧ (∀ i, i < d → ∃ f, f < 6 ∧ ∃ j, j < 6 ∧ rf f j = e i) ∧
  (∀ f g i, f < 6 → g < 6 → i < 6 → rfC f 6 ≠ 0 → rf g i ≠ rfC f 6) ∧
  (∀ b, (b < 7 ∨ (b ≠ 0 ∧ ∃ f, f < 6 ∧ rf f 6 = b)) → t 3 b ≠ 1 → t 4 b ≠ 1 ∧ ∀ w, w < 4 → t 2 (4 * b + w) = rcv t b w c) ∧
  (∀ b, b < 7 → t 4 b ≠ 1) ∧ ((∃ b, b < 23 ∧ t 4 b = 1) → t 3 6 = 1) ∧ szf (cn (t 3) 23) (cn (t 4) 23) ≤ 24
/-- what holds at all times -/
def rB (s t : tj_S) (c o d : Nat) (z ab e lenC : Nat → Nat) (rfC : Nat → Nat → Nat) : Prop :=
  rPow s t ∧ rMode s t ∧ rWrd s t ∧ rMsk s t ∧ rDir s t d e ∧ rLog s t c o z ab ∧ fsR (rci t c) lenC rfC
def pRel (s t : tj_S) : Prop := ∃ (c o d : Nat) (z ab e lenC : Nat → Nat) (rfC : Nat → Nat → Nat), rB s t c o d z ab e lenC rfC ∧ (t 0 12 = 1 → ∃ (len : Nat → Nat) (rf : Nat → Nat → Nat), rUp t c d e len rf rfC)
-- small rows
theorem gd_in {α : Type} {i n : Nat} {k : Option α} (h : i < n) (hn : n < 2 ^ 31) : gd (inb (nI i) n) k = k := by
  unfold gd
  rw [if_pos]
  unfold inb
  rw [nI_toInt (by omega)]
  simp
  omega
theorem nI_s (i : Nat) : nI i + Int32.ofInt 1 = nI (i + 1) := nI_1 i
theorem cl_n {i : Nat} (h : i < 2 ^ 31) : (nI i).toNatClampNeg = i := nI_clamp h
theorem le_n {a i : Nat} (ha : a < 2 ^ 31) (hi : i < 2 ^ 31) : (nI a ≤ nI i) = (a ≤ i) := propext (nI_leI ha hi)
theorem lt_n {a i : Nat} (ha : a < 2 ^ 31) (hi : i < 2 ^ 31) : (nI a < nI i) = (a < i) := propext (nI_ltI ha hi)
theorem eq_n {a i : Nat} (ha : a < 2 ^ 31) (hi : i < 2 ^ 31) : (nI a = nI i) = (a = i) := propext (nI_eq ha hi)
theorem bd_s {α : Type} (r : Int32) (s : tj_S) (k : Int32 → tj_S → Option α) : bd (some (r, s)) k = k r s := rfl
theorem bv_s {α : Type} (s : tj_S) (k : tj_S → Option α) : bv (some s) k = k s := rfl
theorem nm_s {α β : Type} (x : α) (k : α → β) : nm x k = k x := rfl
theorem gd_t {α : Type} {b : Bool} {k : Option α} (h : b = true) : gd b k = k := by subst h; rfl
theorem cn_le (f : Nat → Int32) : ∀ n, cn f n ≤ n
  | 0 => Nat.le_refl _
  | n + 1 => by
    have := cn_le f n
    show cn f n + _ ≤ n + 1
    split <;> omega
theorem cn_congr {f g : Nat → Int32} : ∀ n, (∀ i, i < n → f i = g i) → cn f n = cn g n
  | 0, _ => rfl
  | n + 1, h => by
    show cn f n + _ = cn g n + _
    rw [cn_congr n (fun i hi => h i (by omega)), h n (by omega)]
theorem cn_mono (f : Nat → Int32) {a b : Nat} (h : a ≤ b) : cn f a ≤ cn f b := by
  induction b with
  | zero => rw [Nat.le_zero.mp h]; exact Nat.le_refl _
  | succ b ih =>
    rcases Nat.lt_or_ge b a with h1 | h1
    · rw [show a = b + 1 by omega]; exact Nat.le_refl _
    · exact Nat.le_trans (ih h1) (Nat.le_add_right _ _)
theorem mk_pop {x : Int32} {f : Nat → Int32} (h : mk x f) : popN (bt x) 32 = cn f 23 := by
  have h1 : ∀ n, n ≤ 23 → popN (bt x) n = cn f n := by
    intro n
    induction n with
    | zero => intro _; rfl
    | succ n ih =>
      intro hn
      show popN (bt x) n + (bt x n).toNat = cn f n + _
      rw [ih (by omega), h.1 n (by omega), decide_eq_true (show n < 23 by omega), Bool.true_and]
      by_cases hf : f n = 1 <;> simp [hf]
  have h2 : ∀ m, m ≤ 9 → popN (bt x) (23 + m) = cn f 23 := by
    intro m
    induction m with
    | zero => intro _; exact h1 23 (by omega)
    | succ m ih =>
      intro hm
      show popN (bt x) (23 + m) + (bt x (23 + m)).toNat = _
      rw [ih (by omega), h.1 (23 + m) (by omega), decide_eq_false (show ¬ 23 + m < 23 by omega)]
      rfl
  exact h2 9 (by omega)
theorem cn_pos {f : Nat → Int32} {b : Nat} : ∀ n, b < n → f b = 1 → 0 < cn f n
  | 0, h, _ => absurd h (by omega)
  | n + 1, h, hf => by
    show 0 < cn f n + _
    by_cases e : b = n
    · subst e; rw [if_pos hf]; omega
    · have := cn_pos n (by omega) hf; omega
theorem mk_zero {x : Int32} {f : Nat → Int32} (h : mk x f) : x = 0 ↔ cn f 23 = 0 := by
  constructor
  · intro e
    rw [← mk_pop h, e]; decide +kernel
  · intro e
    apply b_zero
    intro i hi
    rw [h.1 i hi]
    by_cases h1 : i < 23
    · by_cases h2 : f i = 1
      · have := cn_pos 23 h1 h2; omega
      · simp [h2]
    · simp [h1]
theorem mk_bit {x : Int32} {f : Nat → Int32} (h : mk x f) {b : Nat} (hb : b < 23) : bt x b = decide (f b = 1) := by
  rw [h.1 b (by omega), decide_eq_true hb, Bool.true_and]
theorem bn_spec {n : Nat} (hn : n < 1000) (s : tj_S) : f_X_blocksNaming (nI n) s = some (nI ((n + 3) / 4), s) := by
  unfold f_X_blocksNaming
  have e : (nI n + 4 : Int32) - 1 = nI (n + 3) := by
    rw [show (nI n + 4 : Int32) = nI (n + 4) from nI_add n 4]
    exact nI_pred (n + 3)
  rw [e, show (nI (n + 3) / 4 : Int32) = nI ((n + 3) / 4) from pk_div (d := 4) (by omega) (by omega) (by omega)]
def ndv (c r : Nat) : Nat := if c = 0 then 0 else szf c r
theorem lb_spec {s : tj_S} {f g : Nat → Int32} (h1 : mk (s 10 3) f) (h2 : mk (s 10 4) g) : f_Mem_logBlocksNeeded s = some (nI (ndv (cn f 23) (cn g 23)), s) := by
  unfold f_Mem_logBlocksNeeded ndv
  have hc := cn_le f 23
  have hg := cn_le g 23
  by_cases h : cn f 23 = 0
  · rw [if_pos ((mk_zero h1).mpr h), if_pos h]; rfl
  · rw [if_neg (fun e => h ((mk_zero h1).mp e)), if_neg h, bc_spec, mk_pop h1, bd_s, bn_spec (by omega), bd_s, bc_spec, mk_pop h2, bd_s, bn_spec (by omega), bd_s]
    rw [nI_add, nI_add, nI_1]; rfl
