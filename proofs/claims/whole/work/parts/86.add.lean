theorem zer_o {u : Nat → Int32} {b j : Nat} (h : j / 4 ≠ b) : zer u b 0 j = u j := by
  unfold zer; rw [if_neg (by omega)]
theorem zer_in {u : Nat → Int32} {b j : Nat} (h : j / 4 = b) : zer u b 0 j = 0 := by
  unfold zer; rw [if_pos (by omega)]
/-- the words of both sides agree once the class has set the entry -/
theorem zer_eq {u w : Nat → Int32} {b p : Nat} {x v : Int32} (h : ∀ i, i < 92 → u i = w i) (h7 : 7 ≤ b) (hp : p ≠ 24) : ∀ i, i < 92 → upd (zer (upd u 24 x) b 0) p v i = upd (upd (zer w b 0) p v) 24 x i := by
  intro i hi
  by_cases y : i = 24
  · subst y
    rw [upd_o (fun q => hp q.symm), upd_at, zer_o (by omega), upd_at]
  · rw [upd_o (show i ≠ 24 from y)]
    by_cases y2 : i = p
    · rw [y2, upd_at, upd_at]
    · rw [upd_o y2, upd_o y2]
      by_cases y3 : i / 4 = b
      · rw [zer_in y3, zer_in y3]
      · rw [zer_o y3, zer_o y3, upd_o y]; exact h i hi
/-- a data block is taken and entered on both sides -/
theorem ad_spec {s t : tj_S} {J : Nat → Int32} {d : Nat} {e : Nat → Nat} {rf : Nat → Nat → Nat} (h : mR s t J d e rf) (hu : s 10 5 = t 0 16) (hp : 0 < popN (opB rf (t 0 16)) 16) {f i : Nat} (hf : f < 6) (hi : i < 6) (hz : rf f i = 0) (h6 : 2 ≤ i → rf f 6 ≠ 0) : ∃ (b : Nat) (s1 t1 : tj_S), 7 ≤ b ∧ b < 23 ∧ ¬ usd rf b ∧ bt (t 0 16) (b - 7) = false ∧ (bd (f_Mem_takeBlock s) fun r3 s2 => bv (f_Mem_putDataBlock (nI f) (nI i) r3 s2) fun s5 => some s5) = some s1 ∧ f_Mod_take (nI (cel rf f i)) t = some (nI b, t1) ∧ mR s1 t1 (jx (upd J 6 1) (rf f 6) (decide (2 ≤ i))) d e (upR rf f i b) ∧ t1 3 = upd (t 3) 6 1 ∧ t1 4 = t 4 ∧ (∀ j, j ≠ 24 → j ≠ cel rf f i → j / 4 ≠ b → t1 2 j = t 2 j) ∧ sMm s s1 ∧ tMm t t1 := by
  obtain ⟨g1, g2, g3, g4, g5, g6, g7⟩ := id h
  obtain ⟨v1, v2, v3⟩ := cel_val hf hi (g5 f hf) h6
  obtain ⟨b, x, s2, t1, k1, k2, k3, k4, k5, k6, k7, k8, k9, k10, k11, k12, k13, k14, k15, k16, k17, k18⟩ := tk_spec h hu hp hf (show i < 7 by omega) hz v2 v3 (fun b h7 hb hn => G_data (G_zer g5 h7 hn) g6 hf hi h6 hb (fun _ => h7))
  have l6 := ((g5 f hf).2.2.2.1 6 (by omega))
  have ix3 : 2 ≤ i → s2 11 (4 * f + 3) = nI (rf f 6) ∧ rf f 6 < 23 := fun _ => ⟨by rw [k7, zer_o (by omega), upd_o (by omega), g1 _ (by omega)]; exact (g5 f hf).2.2.1, l6.1⟩
  refine ⟨b, _, t1, k1, k2, k3, k4, by rw [k5, bd_s, pd_spec (ix := rf f 6) hf hi ix3, bv_s], k6, ⟨fun j hj => ?_, ?_, ?_, ?_, k14, k16, by rw [k8, upd_at]; exact k15⟩, k10, k12, fun j j1 j2 j3 => by rw [k8, upd_o j1, upd_o j2, zer_o j3], sMm_t k17 ⟨fun a y z w => ?_, ?_⟩, k18⟩
  · have e1 : (if 2 ≤ i then up2 (up2 s2 11 (4 * rf f 6 + (i - 2)) (nI b)) 10 3 (s2 10 3 ||| ((1 : Int32) <<< (nI (rf f 6) &&& 31))) else up2 s2 11 (4 * f + 1 + i) (nI b)) 11 = upd (s2 11) (cel rf f i) (nI b) := by
      unfold cel
      by_cases q : 2 ≤ i
      · rw [if_pos q, if_neg (by omega), up2_ne (by omega), up2_eq]
      · rw [if_neg q, if_pos (by omega), up2_eq]
    rw [e1, k7, k8]; exact zer_eq g1 k1 v3 j hj
  · by_cases q : 2 ≤ i
    · rw [if_pos q, up2_at, decide_eq_true q, jx_t]; exact mk_set l6.1 k9
    · rw [if_neg q, up2_ne (by omega), decide_eq_false q, jx_f]; exact k9
  · rw [k12]
    by_cases q : 2 ≤ i
    · rw [if_pos q, up2_o (by omega), up2_ne (by omega), k11]; exact g3
    · rw [if_neg q, up2_ne (by omega), k11]; exact g3
  · unfold rDir at *
    by_cases q : 2 ≤ i
    · rw [if_pos q, up2_o (show 2 ≠ 3 by omega), up2_ne (show 10 ≠ 11 by omega), up2_ne (show 12 ≠ 10 by omega), up2_ne (show 12 ≠ 11 by omega)]; exact k13
    · rw [if_neg q, up2_ne (show 10 ≠ 11 by omega), up2_ne (show 12 ≠ 11 by omega)]; exact k13
  · by_cases q : 2 ≤ i
    · rw [if_pos q, up2_ne y, up2_ne z]
    · rw [if_neg q, up2_ne z]
  · by_cases q : 2 ≤ i
    · rw [if_pos q, up2_o (by omega), up2_ne (by omega)]
    · rw [if_neg q, up2_ne (by omega)]
/-- an index is taken and entered on both sides -/
theorem ax_spec {s t : tj_S} {J : Nat → Int32} {d : Nat} {e : Nat → Nat} {rf : Nat → Nat → Nat} (h : mR s t J d e rf) (hu : s 10 5 = t 0 16) (hp : 0 < popN (opB rf (t 0 16)) 16) {f : Nat} (hf : f < 6) (hz6 : rf f 6 = 0) (hz : ∀ i, 2 ≤ i → i < 6 → rf f i = 0) : ∃ (b : Nat) (s2 s1 t1 : tj_S), 7 ≤ b ∧ b < 23 ∧ ¬ usd rf b ∧ bt (t 0 16) (b - 7) = false ∧ f_Mem_takeBlock s = some (nI b, s2) ∧ f_Mem_setWord (nI f) (3 : Int32) (nI b) s2 = some s1 ∧ f_Mod_take (nI (4 * f + 3)) t = some (nI b, t1) ∧ mR s1 t1 (upd J 6 1) d e (upR rf f 6 b) ∧ t1 3 = upd (t 3) 6 1 ∧ t1 4 = t 4 ∧ (∀ j, j ≠ 24 → j ≠ 4 * f + 3 → j / 4 ≠ b → t1 2 j = t 2 j) ∧ sMm s s1 ∧ tMm t t1 := by
  obtain ⟨g1, g2, g3, g4, g5, g6, g7⟩ := id h
  obtain ⟨b, x, s2, t1, k1, k2, k3, k4, k5, k6, k7, k8, k9, k10, k11, k12, k13, k14, k15, k16, k17, k18⟩ := tk_spec (p := 4 * f + 3) h hu hp hf (show 6 < 7 by omega) hz6 (by omega) (by omega) (fun b h7 hb hn => G_idx (G_zer g5 h7 hn) hf hz hb (fun _ => ⟨h7, fun i hi => zer_in (by omega)⟩))
  refine ⟨b, s2, _, t1, k1, k2, k3, k4, k5, by rw [show (3 : Int32) = nI 3 from rfl, sw_spec (by omega) (by omega)], k6, ⟨fun j hj => ?_, ?_, ?_, ?_, k14, k16, by rw [k8, upd_at]; exact k15⟩, k10, k12, fun j j1 j2 j3 => by rw [k8, upd_o j1, upd_o j2, zer_o j3], sMm_t k17 ⟨fun a y z w => by rw [up2_ne z], by rw [up2_ne (by omega)]⟩, k18⟩
  · rw [up2_eq, k7, k8]; exact zer_eq g1 k1 (by omega) j hj
  · rw [up2_ne (by omega)]; exact k9
  · rw [up2_ne (by omega), k11, k12]; exact g3
  · unfold rDir at *
    rw [up2_ne (show 10 ≠ 11 by omega), up2_ne (show 12 ≠ 11 by omega)]; exact k13
/-- one fewer block is open once one was taken -/
theorem op_less {rf : Nat → Nat → Nat} {u : Int32} {f i b : Nat} (hf : f < 6) (hi : i < 7) (hz : rf f i = 0) (h7 : 7 ≤ b) : popN (opB rf u) 16 ≤ popN (opB (upR rf f i b) u) 16 + 1 := by
  have := pop_imp (p := opB rf u) (q := opB (upR rf f i b) u) (j := b - 7) 16 (fun k hk hn q => by
    unfold opB at *
    rw [Bool.and_eq_true, Bool.not_eq_true', Bool.not_eq_true'] at *
    refine ⟨?_, q.2⟩
    cases hc : usB (upR rf f i b) (k + 7)
    · rfl
    · rcases (us_add hf hi hz (show k + 7 ≠ 0 by omega)).mp (usB_iff.mp hc) with y | y
      · rw [usB_iff.mpr y] at q; exact absurd q.1 (by decide)
      · omega)
  split at this <;> omega
/-- no fewer blocks are open behind the check for a large transaction -/
theorem op_ready {rf : Nat → Nat → Nat} {u u1 x : Int32} (hx : mapW x rf) (h : u1 = u ∨ u1 = x) : popN (opB rf u) 16 ≤ popN (opB rf u1) 16 := by
  have := pop_imp (p := opB rf u) (q := opB rf u1) (j := 16) 16 (fun k hk hn q => by
    rcases h with y | y
    · rw [y]; exact q
    · unfold opB at *
      rw [Bool.and_eq_true, Bool.not_eq_true', Bool.not_eq_true'] at *
      refine ⟨q.1, ?_⟩
      rw [y, hx k (by omega), q.1]; simp)
  rw [if_neg (by omega)] at this
  exact this
