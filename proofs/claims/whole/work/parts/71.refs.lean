theorem mk_set {x : Int32} {f : Nat → Int32} {b : Nat} (hb : b < 23) (h : mk x f) : mk (x ||| ((1 : Int32) <<< (nI b &&& 31))) (upd f b 1) := by
  refine ⟨fun i hi => ?_, fun i hi => ?_⟩
  · rw [b_or, h.1 i hi, b_bit (by omega) hi]
    unfold upd
    by_cases q : i = b
    · subst q; simp [hb]
    · simp [q]
  · unfold upd
    by_cases q : i = b
    · rw [if_pos q]; exact Or.inr rfl
    · rw [if_neg q]; exact h.2 i hi
theorem mk_clr {x : Int32} {f : Nat → Int32} {b : Nat} (hb : b < 23) (h : mk x f) : mk (x &&& (((1 : Int32) <<< (nI b &&& 31)) ^^^ (-1))) (upd f b 0) := by
  refine ⟨fun i hi => ?_, fun i hi => ?_⟩
  · rw [b_and, h.1 i hi, b_not hi, b_bit (by omega) hi]
    unfold upd
    by_cases q : i = b
    · subst q; simp
    · simp [q]
  · unfold upd
    by_cases q : i = b
    · rw [if_pos q]; exact Or.inl rfl
    · rw [if_neg q]; exact h.2 i hi
def upR (rf : Nat → Nat → Nat) (f i v : Nat) : Nat → Nat → Nat := fun g j => if g = f ∧ j = i then v else rf g j
theorem upR_at {rf : Nat → Nat → Nat} {f i v : Nat} : upR rf f i v f i = v := if_pos ⟨rfl, rfl⟩
theorem upR_o {rf : Nat → Nat → Nat} {f i v g j : Nat} (h : ¬ (g = f ∧ j = i)) : upR rf f i v g j = rf g j := if_neg h
theorem us_clr {rf : Nat → Nat → Nat} (hu : uniq rf) {f i b b1 : Nat} (hf : f < 6) (hi : i < 7) (hb : rf f i = b) (hb0 : b ≠ 0) (h1 : b1 ≠ 0) : usd (upR rf f i 0) b1 ↔ usd rf b1 ∧ b1 ≠ b := by
  constructor
  · rintro ⟨g, hg, j, hj, q⟩
    by_cases e : g = f ∧ j = i
    · obtain ⟨rfl, rfl⟩ := e
      rw [upR_at] at q; exact absurd q.symm h1
    · rw [upR_o e] at q
      refine ⟨⟨g, hg, j, hj, q⟩, fun e2 => e ?_⟩
      exact hu g f j i hg hf hj hi (by rw [q]; exact h1) (by rw [q, e2, hb])
  · rintro ⟨⟨g, hg, j, hj, q⟩, e⟩
    refine ⟨g, hg, j, hj, ?_⟩
    rw [upR_o (fun e2 => e (by rw [← q, e2.1, e2.2, hb]))]; exact q
theorem us_add {rf : Nat → Nat → Nat} {f i v b1 : Nat} (hf : f < 6) (hi : i < 7) (hz : rf f i = 0) (h1 : b1 ≠ 0) : usd (upR rf f i v) b1 ↔ usd rf b1 ∨ b1 = v := by
  constructor
  · rintro ⟨g, hg, j, hj, q⟩
    by_cases e : g = f ∧ j = i
    · obtain ⟨rfl, rfl⟩ := e
      rw [upR_at] at q; exact Or.inr q.symm
    · rw [upR_o e] at q
      exact Or.inl ⟨g, hg, j, hj, q⟩
  · rintro (⟨g, hg, j, hj, q⟩ | e)
    · refine ⟨g, hg, j, hj, ?_⟩
      rw [upR_o (fun e2 => h1 (by rw [← q, e2.1, e2.2, hz]))]; exact q
    · exact ⟨f, hf, i, hi, by rw [upR_at, e]⟩
theorem uniq_clr {rf : Nat → Nat → Nat} (hu : uniq rf) (f i : Nat) : uniq (upR rf f i 0) := by
  intro g h j k hg hh hj hk hn he
  by_cases e : g = f ∧ j = i
  · obtain ⟨rfl, rfl⟩ := e
    rw [upR_at] at hn; exact absurd rfl hn
  · rw [upR_o e] at hn he
    by_cases e2 : h = f ∧ k = i
    · obtain ⟨rfl, rfl⟩ := e2
      rw [upR_at] at he; exact absurd he hn
    · rw [upR_o e2] at he
      exact hu g h j k hg hh hj hk hn he
theorem uniq_add {rf : Nat → Nat → Nat} (hu : uniq rf) {f i v : Nat} (hv : v ≠ 0) (hn : ¬ usd rf v) : uniq (upR rf f i v) := by
  intro g h j k hg hh hj hk hn1 he
  by_cases e : g = f ∧ j = i
  · obtain ⟨rfl, rfl⟩ := e
    by_cases e2 : h = g ∧ k = j
    · exact ⟨e2.1.symm, e2.2.symm⟩
    · rw [upR_at, upR_o e2] at he
      exact absurd ⟨h, hh, k, hk, he.symm⟩ hn
  · rw [upR_o e] at hn1 he
    by_cases e2 : h = f ∧ k = i
    · obtain ⟨rfl, rfl⟩ := e2
      rw [upR_at] at he
      exact absurd ⟨g, hg, j, hj, he⟩ hn
    · rw [upR_o e2] at he
      exact hu g h j k hg hh hj hk hn1 he
theorem map_clr {x : Int32} {rf : Nat → Nat → Nat} (hx : mapW x rf) (hu : uniq rf) {f i b : Nat} (hf : f < 6) (hi : i < 7) (hb : rf f i = b) (h7 : 7 ≤ b) (h23 : b < 23) : mapW (x &&& (((1 : Int32) <<< (nI (b - 7) &&& 31)) ^^^ (-1))) (upR rf f i 0) := by
  intro j hj
  rw [b_and, hx j hj, b_not hj, b_bit (by omega) hj]
  have h := us_clr hu hf hi hb (b1 := j + 7) (by omega) (by omega)
  by_cases q : j = b - 7
  · have : usB (upR rf f i 0) (j + 7) = false := by
      cases hc : usB (upR rf f i 0) (j + 7)
      · rfl
      · exact absurd (by omega) (h.mp (usB_iff.mp hc)).2
    rw [this, decide_eq_true q]; simp
  · rw [decide_eq_false q]
    have e : usB (upR rf f i 0) (j + 7) = usB rf (j + 7) := by
      cases hc : usB rf (j + 7)
      · cases hd : usB (upR rf f i 0) (j + 7)
        · rfl
        · rw [usB_iff.mpr (h.mp (usB_iff.mp hd)).1] at hc; exact absurd hc (by decide)
      · exact usB_iff.mpr (h.mpr ⟨usB_iff.mp hc, by omega⟩)
    rw [e]; simp
theorem map_add {x : Int32} {rf : Nat → Nat → Nat} (hx : mapW x rf) {f i b : Nat} (hf : f < 6) (hi : i < 7) (hz : rf f i = 0) (h7 : 7 ≤ b) (h23 : b < 23) : mapW (x ||| ((1 : Int32) <<< (nI (b - 7) &&& 31))) (upR rf f i b) := by
  intro j hj
  rw [b_or, hx j hj, b_bit (by omega) hj]
  have h := us_add (v := b) hf hi hz (b1 := j + 7) (by omega)
  by_cases q : j = b - 7
  · rw [usB_iff.mpr (h.mpr (Or.inr (by omega))), decide_eq_true q, decide_eq_true (show j < 16 by omega)]; simp
  · rw [decide_eq_false q]
    have e : usB (upR rf f i b) (j + 7) = usB rf (j + 7) := by
      cases hc : usB rf (j + 7)
      · cases hd : usB (upR rf f i b) (j + 7)
        · rfl
        · rcases h.mp (usB_iff.mp hd) with k | k
          · rw [usB_iff.mpr k] at hc; exact absurd hc (by decide)
          · omega
      · exact usB_iff.mpr (h.mpr (Or.inl (usB_iff.mp hc)))
    rw [e]; simp
/-- words that carry no reference may change -/
theorem G_frame {w w1 : Nat → Int32} {rf : Nat → Nat → Nat} (h : ∀ f, f < 6 → fsG w (rf f) f) (h1 : ∀ g, g < 6 → ∀ j, 1 ≤ j → j < 4 → w1 (4 * g + j) = w (4 * g + j)) (h2 : ∀ g, g < 6 → rf g 6 ≠ 0 → ∀ j, j < 4 → w1 (4 * rf g 6 + j) = w (4 * rf g 6 + j)) : ∀ f, f < 6 → fsG w1 (rf f) f := by
  intro f hf
  obtain ⟨a, b, c, d, e, g⟩ := h f hf
  refine ⟨?_, ?_, ?_, d, fun q i hi => ?_, g⟩
  · rw [h1 f hf 1 (by omega) (by omega)]; exact a
  · rw [h1 f hf 2 (by omega) (by omega)]; exact b
  · rw [h1 f hf 3 (by omega) (by omega)]; exact c
  · rw [h2 f hf q i hi]; exact e q i hi
/-- a data reference is set -/
theorem G_data {w : Nat → Int32} {rf : Nat → Nat → Nat} (h : ∀ f, f < 6 → fsG w (rf f) f) (hu : uniq rf) {f i v : Nat} (hf : f < 6) (hi : i < 6) (h2 : 2 ≤ i → rf f 6 ≠ 0) (hv : v < 23) (hv7 : v ≠ 0 → 7 ≤ v) : ∀ g, g < 6 → fsG (upd w (cel rf f i) (nI v)) (upR rf f i v g) g := by
  intro g hg
  obtain ⟨a, b, c, d, e, k⟩ := h g hg
  have r6 : upR rf f i v g 6 = rf g 6 := upR_o (by omega)
  have hcel : cel rf f i = if i < 2 then 4 * f + 1 + i else 4 * rf f 6 + (i - 2) := rfl
  have n6 : rf f 6 ≠ 0 → 7 ≤ rf f 6 := ((h f hf).2.2.2.1 6 (by omega)).2
  have ino : ∀ j, 1 ≤ j → j < 4 → 4 * g + j ≠ cel rf f i → upd w (cel rf f i) (nI v) (4 * g + j) = w (4 * g + j) := fun j _ _ q => if_neg q
  have cbig : 2 ≤ i → 28 ≤ cel rf f i := fun q => by rw [hcel, if_neg (by omega)]; have := n6 (h2 q); omega
  refine ⟨?_, ?_, ?_, fun j hj => ?_, fun q j hj => ?_, fun q j j1 j2 => ?_⟩
  · by_cases q : g = f ∧ 0 = i
    · obtain ⟨rfl, rfl⟩ := q
      rw [upR_at]
      exact if_pos (by rw [hcel]; rfl)
    · rw [upR_o q]
      rw [ino 1 (by omega) (by omega) (fun q2 => ?_)]
      · exact a
      · rcases Nat.lt_or_ge i 2 with k1 | k1
        · rw [hcel, if_pos k1] at q2; omega
        · have := cbig k1; omega
  · by_cases q : g = f ∧ 1 = i
    · obtain ⟨rfl, rfl⟩ := q
      rw [upR_at]
      exact if_pos (by rw [hcel]; rfl)
    · rw [upR_o q]
      rw [ino 2 (by omega) (by omega) (fun q2 => ?_)]
      · exact b
      · rcases Nat.lt_or_ge i 2 with k1 | k1
        · rw [hcel, if_pos k1] at q2; omega
        · have := cbig k1; omega
  · rw [r6, ino 3 (by omega) (by omega) (fun q2 => ?_)]
    · exact c
    · rcases Nat.lt_or_ge i 2 with k1 | k1
      · rw [hcel, if_pos k1] at q2; omega
      · have := cbig k1; omega
  · by_cases q : g = f ∧ j = i
    · obtain ⟨rfl, rfl⟩ := q
      rw [upR_at]; exact ⟨hv, hv7⟩
    · rw [upR_o q]; exact d j hj
  · rw [r6] at q ⊢
    have g7 := (d 6 (by omega)).2 q
    by_cases q2 : g = f ∧ j + 2 = i
    · obtain ⟨rfl, rfl⟩ := q2
      rw [upR_at]
      exact if_pos (by rw [hcel, if_neg (by omega), show j + 2 - 2 = j by omega])
    · rw [upR_o q2]
      have : upd w (cel rf f i) (nI v) (4 * rf g 6 + j) = w (4 * rf g 6 + j) := if_neg (fun q3 => by
        rcases Nat.lt_or_ge i 2 with k1 | k1
        · rw [hcel, if_pos k1] at q3; omega
        · rw [hcel, if_neg (by omega)] at q3
          have h6 := n6 (h2 k1)
          have e6 : rf g 6 = rf f 6 := by omega
          have := hu g f 6 6 hg hf (by omega) (by omega) q e6
          omega)
      rw [this]; exact e q j hj
  · rw [r6] at q
    by_cases q2 : g = f ∧ j = i
    · obtain ⟨rfl, rfl⟩ := q2
      exact absurd q (h2 j1)
    · rw [upR_o q2]; exact k q j j1 j2
/-- an index is dropped (its entries are 0), or set (its words are 0) -/
theorem G_idx {w : Nat → Int32} {rf : Nat → Nat → Nat} (h : ∀ f, f < 6 → fsG w (rf f) f) {f v : Nat} (hf : f < 6) (hz : ∀ i, 2 ≤ i → i < 6 → rf f i = 0) (hv : v < 23) (hv7 : v ≠ 0 → 7 ≤ v ∧ ∀ i, i < 4 → w (4 * v + i) = 0) : ∀ g, g < 6 → fsG (upd w (4 * f + 3) (nI v)) (upR rf f 6 v g) g := by
  intro g hg
  obtain ⟨a, b, c, d, e, k⟩ := h g hg
  have lo : ∀ j, j < 6 → upR rf f 6 v g j = rf g j := fun j hj => upR_o (by omega)
  have up : ∀ x, x ≠ 4 * f + 3 → upd w (4 * f + 3) (nI v) x = w x := fun x hx => if_neg hx
  refine ⟨?_, ?_, ?_, fun j hj => ?_, fun q j hj => ?_, fun q j j1 j2 => ?_⟩
  · rw [lo 0 (by omega), up _ (by omega)]; exact a
  · rw [lo 1 (by omega), up _ (by omega)]; exact b
  · by_cases q : g = f
    · subst q; rw [upR_at]; exact if_pos rfl
    · rw [upR_o (by omega), up _ (by omega)]; exact c
  · by_cases q : g = f ∧ j = 6
    · obtain ⟨rfl, rfl⟩ := q
      rw [upR_at]; exact ⟨hv, fun q => (hv7 q).1⟩
    · rw [upR_o q]; exact d j hj
  · rw [lo (j + 2) (by omega)]
    by_cases q2 : g = f
    · subst q2
      rw [upR_at] at q ⊢
      rw [up _ (by have := (hv7 q).1; omega), (hv7 q).2 j hj, hz (j + 2) (by omega) (by omega)]; rfl
    · rw [upR_o (by omega)] at q ⊢
      have g7 := (d 6 (by omega)).2 q
      rw [up _ (by omega)]; exact e q j hj
  · rw [lo j j2]
    by_cases q2 : g = f
    · subst q2; exact hz j j1 j2
    · rw [upR_o (by omega)] at q; exact k q j j1 j2
-- the class's small operations
theorem sw_spec {b w : Nat} (hb : b < 23) (hw : w < 4) (v : Int32) (s : tj_S) : f_Mem_setWord (nI b) (nI w) v s = some (up2 s 11 (4 * b + w) v) := by
  unfold f_Mem_setWord
  rw [iw_t hb hw, bd_s, if_neg h10, adr, gd_in (by omega) (by omega), nm_s, cl_n (by omega)]
theorem jn_spec {b : Nat} (hb : b < 23) (s : tj_S) : f_Mem_join (nI b) s = some (up2 s 10 3 (s 10 3 ||| ((1 : Int32) <<< (nI b &&& 31)))) := by
  unfold f_Mem_join
  rw [ib_t hb, bd_s, if_neg h10, nm_s]
theorem rv_spec {b : Nat} (hb : b < 23) (s : tj_S) : f_Mem_revoke (nI b) s = some (up2 s 10 4 (s 10 4 ||| ((1 : Int32) <<< (nI b &&& 31)))) := by
  unfold f_Mem_revoke
  rw [ib_t hb, bd_s, if_neg h10, nm_s]
theorem ip_t {b : Nat} (h7 : 7 ≤ b) (hb : b < 23) (s : tj_S) : f_X_isPoolBlock (nI b) s = some (1, s) := by
  unfold f_X_isPoolBlock
  rw [if_neg (by rw [show (nI b < (7 : Int32)) = (b < 7) from lt_n (i := 7) (by omega) (by omega)]; omega), if_neg (by rw [show ((23 : Int32) ≤ nI b) = (23 ≤ b) from le_n (a := 23) (by omega) (by omega)]; omega)]
