/-- the log's rows are rows of 0 and 1, and there are c transactions -/
def lgO (t : tj_S) (c : Nat) : Prop := c ≤ 8 ∧ t 0 10 = nI c ∧ (∀ k, k < c → ∀ i, i < 23 → hs t k i = 0 ∨ hs t k i = 1) ∧ ∀ k, k < c → ∀ i, i < 23 → gn t k i = 0 ∨ gn t k i = 1
theorem lgO_m {t t1 : tj_S} {c : Nat} (h : lgO t c) (hm : tMm t t1) : lgO t1 c := by
  obtain ⟨a, b, x, y⟩ := h
  refine ⟨a, by rw [hm.2 10 (by omega)]; exact b, fun k hk i hi => ?_, fun k hk i hi => ?_⟩
  · unfold hs; rw [hm.1 6 (by omega) (by omega) (by omega) (by omega) (by omega)]; exact x k hk i hi
  · unfold gn; rw [hm.1 7 (by omega) (by omega) (by omega) (by omega) (by omega)]; exact y k hk i hi
theorem rcv_m {t t1 : tj_S} (hm : tMm t t1) (b w k : Nat) : rcv t1 b w k = rcv t b w k := rcv_congr (hm.1 1 (by omega) (by omega) (by omega) (by omega) (by omega)) (hm.1 6 (by omega) (by omega) (by omega) (by omega) (by omega)) (hm.1 7 (by omega) (by omega) (by omega) (by omega) (by omega)) (hm.1 8 (by omega) (by omega) (by omega) (by omega) (by omega)) b w k
theorem upd_at {f : Nat → Int32} {k : Nat} {x : Int32} : upd f k x k = x := if_pos rfl
theorem upd_o {f : Nat → Int32} {k j : Nat} {x : Int32} (h : j ≠ k) : upd f k x j = f j := if_neg h
/-- what the class has joined: the reference's rows, and the index once an entry of it went -/
def jx (f : Nat → Int32) (ix : Nat) (tl : Bool) : Nat → Int32 := fun b => if tl = true ∧ b = ix then 1 else f b
theorem pd_spec {s : tj_S} {f i ix : Nat} (hf : f < 6) (hi : i < 6) (h3 : 2 ≤ i → s 11 (4 * f + 3) = nI ix ∧ ix < 23) (v : Int32) : f_Mem_putDataBlock (nI f) (nI i) v s = some (if 2 ≤ i then up2 (up2 s 11 (4 * ix + (i - 2)) v) 10 3 (s 10 3 ||| ((1 : Int32) <<< (nI ix &&& 31))) else up2 s 11 (4 * f + 1 + i) v) := by
  unfold f_Mem_putDataBlock
  by_cases q : 2 ≤ i
  · obtain ⟨e, hx⟩ := h3 q
    rw [if_pos (by rw [show ((2 : Int32) ≤ nI i) = (2 ≤ i) from le_n (a := 2) (by omega) (by omega)]; exact q), if_pos q, show (3 : Int32) = nI 3 from rfl, wd_spec (by omega) (by omega), bd_s, e, show (nI i - 2 : Int32) = nI (i - 2) from pk_sub (b := 2) q, sw_spec hx (by omega), bv_s, jn_spec hx, bv_s, up2_ne (show 10 ≠ 11 by omega)]
  · rw [if_neg (by rw [show ((2 : Int32) ≤ nI i) = (2 ≤ i) from le_n (a := 2) (by omega) (by omega)]; exact q), if_neg q, show (1 + nI i : Int32) = nI (1 + i) from nI_add 1 i, sw_spec (by omega) (by omega), bv_s, show 4 * f + (1 + i) = 4 * f + 1 + i by omega]
/-- one data block of a file goes: the class's freeBlock and putDataBlock, the reference's release -/
theorem ds_spec {s t : tj_S} {c d : Nat} {e : Nat → Nat} {rf : Nat → Nat → Nat} {tl : Bool} {f i : Nat} (hf : f < 6) (hi : i < 6) (hL : lgO t c) (h : mR s t (jx (t 3) (rf f 6) tl) d e rf) (hix : 2 ≤ i → rf f 6 ≠ 0) (hb : rf f i ≠ 0) (htl : i < 2 → tl = false) : ∃ (d1 : Nat) (e1 : Nat → Nat) (s1 t1 : tj_S), (bv (f_Mem_freeBlock (nI (rf f i)) s) fun s20 => f_Mem_putDataBlock (nI f) (nI i) (0 : Int32) s20) = some s1 ∧ f_Mod_release (nI (cel rf f i)) (0 : Int32) t = some t1 ∧ mR s1 t1 (jx (t1 3) (rf f 6) (tl || decide (2 ≤ i))) d1 e1 (upR rf f i 0) ∧ t1 3 = upd (upd (t 3) (rf f i) 0) 6 1 ∧ t1 4 = t 4 ∧ (∀ j, j ≠ 24 → j ≠ cel rf f i → t1 2 j = t 2 j) ∧ (∀ j, j < d1 → ∃ k, k < d ∧ e1 j = e k ∧ e k ≠ rf f i) ∧ sMm s s1 ∧ tMm t t1 := by
  obtain ⟨g1, g2, g3, g4, g5, g6, g7⟩ := id h
  obtain ⟨q2, q3, q4, q5, q6, q7⟩ := g5 f hf
  have hb7 := (q5 i (by omega)).2 hb
  have hb23 := (q5 i (by omega)).1
  have h6 := q5 6 (by omega)
  have hcel : cel rf f i = if i < 2 then 4 * f + 1 + i else 4 * rf f 6 + (i - 2) := rfl
  have hv : t 2 (cel rf f i) = nI (rf f i) ∧ cel rf f i < 92 ∧ cel rf f i ≠ 24 := by
    rw [hcel]
    by_cases q : i < 2
    · rw [if_pos q]
      have : i = 0 ∨ i = 1 := by omega
      rcases this with rfl | rfl
      · exact ⟨q2, by omega, by omega⟩
      · exact ⟨q3, by omega, by omega⟩
    · rw [if_neg q]
      have n6 := hix (by omega)
      have := h6.2 n6
      refine ⟨?_, by omega, by omega⟩
      rw [q6 n6 (i - 2) (by omega), show i - 2 + 2 = i by omega]
  have hG1 := G_data (v := 0) g5 g6 hf hi hix (by omega) (fun q => absurd rfl q)
  have hm1 := map_clr g7 g6 hf (show i < 7 by omega) rfl hb7 hb23
  obtain ⟨d1, e1, s1, t1, w1, w2, w3, w4, w5, w6, w7, w8, w9, w10, w11, w12, w13, w14⟩ := fr_spec (rf1 := upR rf f i 0) h hb7 hb23 hv.2.1 hv.2.2 hv.1 hG1 hm1
  have hL1 := lgO_m hL w14
  have ix3 : 2 ≤ i → s1 11 (4 * f + 3) = nI (rf f 6) ∧ rf f 6 < 23 := fun _ => ⟨by rw [w3 _ (by omega), if_neg (by omega), g1 _ (by omega)]; exact q4, h6.1⟩
  have hne : rf f i ≠ rf f 6 := fun q => by
    have := g6 f f i 6 hf hf (by omega) (by omega) hb q
    omega
  refine ⟨d1, e1, _, t1, by rw [w1, bv_s, pd_spec (ix := rf f 6) hf hi ix3], ?_, ⟨fun j hj => ?_, ?_, ?_, ?_, w11, uniq_clr g6 f i, w12⟩, w7, w8, fun j h1 h2 => by rw [w4, if_neg h1, if_neg h2], w10, sMm_t w13 ?_, w14⟩
  · rw [w2, show (0 : Int32) = flI false from rfl]
    have := rl_L hb23 hL1.1 hL1.2.1 hL1.2.2.1 hL1.2.2.2 (nI (cel rf f i)) (flI false) (relK (nI (cel rf f i)) (flI false) (nI (rf f i))) c 0 100 false (by omega) (by have := hL1.1; omega)
    refine Eq.trans this ?_
    unfold relK
    rw [if_pos (show flI false = 0 from rfl)]
  · rw [w4 j, hcel]
    by_cases q : 2 ≤ i
    · rw [if_pos q, up2_ne (by omega), up2_eq, if_neg (show ¬ i < 2 by omega)]
      unfold upd
      have n6 := h6.2 (hix q)
      by_cases k : j = 4 * rf f 6 + (i - 2)
      · rw [if_pos k, if_neg (by omega), if_pos k]
      · rw [if_neg k, w3 j hj]
        by_cases k2 : j = 24
        · rw [if_pos k2, if_pos k2]
        · rw [if_neg k2, if_neg k2, if_neg k]; exact g1 j hj
    · rw [if_neg q, up2_eq, if_pos (show i < 2 by omega)]
      unfold upd
      by_cases k : j = 4 * f + 1 + i
      · rw [if_pos k, if_neg (by omega), if_pos k]
      · rw [if_neg k, w3 j hj]
        by_cases k2 : j = 24
        · rw [if_pos k2, if_pos k2]
        · rw [if_neg k2, if_neg k2, if_neg k]; exact g1 j hj
  · by_cases q : 2 ≤ i
    · rw [if_pos q, up2_at]
      refine mk_congr (fun x hx => ?_) (mk_set h6.1 w5)
      rw [w7]
      unfold jx
      rw [decide_eq_true q, Bool.or_true]
      by_cases k : x = rf f 6
      · rw [if_pos ⟨rfl, k⟩, k, upd_at]
      · rw [if_neg (fun z => k z.2), upd_o k]
        by_cases k2 : x = rf f i
        · rw [k2, upd_at, upd_o (by omega), upd_at]
        · rw [upd_o k2]
          by_cases k3 : x = 6
          · rw [k3, upd_at, upd_at]
          · rw [upd_o k3, upd_o k2, upd_o k3, if_neg (fun z => k z.2)]
    · rw [if_neg q, up2_ne (by omega)]
      refine mk_congr (fun x hx => ?_) w5
      rw [w7]
      unfold jx
      rw [decide_eq_false q, Bool.or_false, htl (by omega)]
      rw [if_neg (fun z => absurd z.1 (by decide))]
      by_cases k2 : x = rf f i
      · rw [k2, upd_at, upd_o (by omega), upd_at]
      · rw [upd_o (show x ≠ rf f i from k2)]
        by_cases k3 : x = 6
        · rw [k3, upd_at, upd_at]
        · rw [upd_o k3, upd_o k2, upd_o k3, if_neg (fun z => absurd z.1 (by decide))]
  · have : (if 2 ≤ i then up2 (up2 s1 11 (4 * rf f 6 + (i - 2)) 0) 10 3 (s1 10 3 ||| ((1 : Int32) <<< (nI (rf f 6) &&& 31))) else up2 s1 11 (4 * f + 1 + i) 0) 10 4 = s1 10 4 := by
      split
      · rw [up2_o (by omega), up2_ne (by omega)]
      · rw [up2_ne (by omega)]
    rw [this, w6, w8]; exact g3
  · unfold rDir at *
    have e2 : (if 2 ≤ i then up2 (up2 s1 11 (4 * rf f 6 + (i - 2)) 0) 10 3 (s1 10 3 ||| ((1 : Int32) <<< (nI (rf f 6) &&& 31))) else up2 s1 11 (4 * f + 1 + i) 0) 10 2 = s1 10 2 := by
      split
      · rw [up2_o (by omega), up2_ne (by omega)]
      · rw [up2_ne (by omega)]
    have e3 : (if 2 ≤ i then up2 (up2 s1 11 (4 * rf f 6 + (i - 2)) 0) 10 3 (s1 10 3 ||| ((1 : Int32) <<< (nI (rf f 6) &&& 31))) else up2 s1 11 (4 * f + 1 + i) 0) 12 = s1 12 := by
      split
      · rw [up2_ne (by omega), up2_ne (by omega)]
      · rw [up2_ne (by omega)]
    rw [e2, e3]; exact w9
  · refine ⟨fun a x y z => ?_, ?_⟩
    · split
      · rw [up2_ne x, up2_ne y]
      · rw [up2_ne y]
    · split
      · rw [up2_o (by omega), up2_ne (by omega)]
      · rw [up2_ne (by omega)]
