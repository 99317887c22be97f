theorem up2_ne {s : tj_S} {a i b : Nat} {v : Int32} (h : b ≠ a) : up2 s a i v b = s b := if_neg h
theorem up2_eq {s : tj_S} {a i : Nat} {v : Int32} : up2 s a i v a = upd (s a) i v := if_pos rfl
theorem up2_at {s : tj_S} {a i : Nat} {v : Int32} : up2 s a i v a i = v := by rw [up2_eq]; exact if_pos rfl
theorem up2_o {s : tj_S} {a i j : Nat} {v : Int32} (h : j ≠ i) : up2 s a i v a j = s a j := by rw [up2_eq]; exact if_neg h
theorem st2_ne {s : tj_S} {a b : Nat} {g : Nat → Int32} (h : b ≠ a) : st2 s a g b = s b := if_neg h
theorem st2_eq {s : tj_S} {a : Nat} {g : Nat → Int32} : st2 s a g a = g := if_pos rfl
theorem rcv_congr {t u : tj_S} (h1 : u 1 = t 1) (h6 : u 6 = t 6) (h7 : u 7 = t 7) (h8 : u 8 = t 8) (b w : Nat) : ∀ k, rcv u b w k = rcv t b w k
  | 0 => by unfold rcv; rw [h1]
  | k + 1 => by
    unfold rcv hs gn
    rw [h1, h6, h7, h8, rcv_congr h1 h6 h7 h8 b w k]
theorem rci_congr {t u : tj_S} (h1 : u 1 = t 1) (h6 : u 6 = t 6) (h7 : u 7 = t 7) (h8 : u 8 = t 8) (c : Nat) : rci u c = rci t c := by
  funext i; exact rcv_congr h1 h6 h7 h8 _ _ c
theorem rTx_congr {s t s1 t1 : tj_S} {o k : Nat} {z ab : Nat → Nat} (a5 : s1 5 = s 5) (a6 : s1 6 = s 6) (a7 : s1 7 = s 7) (a8 : s1 8 = s 8) (a9 : s1 9 = s 9) (b6 : t1 6 = t 6) (b7 : t1 7 = t 7) (b8 : t1 8 = t 8) (b9 : t1 9 = t 9) (h : rTx s t o z ab k) : rTx s1 t1 o z ab k := by
  unfold rTx hs gn at *
  rw [a5, a6, a7, a8, a9, b6, b7, b8, b9]; exact h
/-- the power's fields alone may differ -/
def sPow (s s1 : tj_S) : Prop := ∀ a, a ≠ 1 → s1 a = s a
def tPow (t t1 : tj_S) : Prop := (∀ a, a ≠ 0 → t1 a = t a) ∧ ∀ i, i ≠ 12 → i ≠ 14 → i ≠ 15 → t1 0 i = t 0 i
theorem rB_pow {s t s1 t1 : tj_S} {c o d : Nat} {z ab e lenC : Nat → Nat} {rfC : Nat → Nat → Nat} (hs : sPow s s1) (ht : tPow t t1) (hp : rPow s1 t1) (h : rB s t c o d z ab e lenC rfC) : rB s1 t1 c o d z ab e lenC rfC := by
  obtain ⟨_, h2, h3, h4, h5, h6, h7⟩ := h
  obtain ⟨ha, hb⟩ := ht
  refine ⟨hp, ?_, ?_, ?_, ?_, ?_, ?_⟩
  · unfold rMode at *; rw [hs 0 (by omega), hb 13 (by omega) (by omega) (by omega)]; exact h2
  · unfold rWrd at *; rw [hs 3 (by omega), hs 11 (by omega), ha 1 (by omega), ha 2 (by omega)]; exact h3
  · unfold rMsk at *; rw [hs 10 (by omega), ha 3 (by omega), ha 4 (by omega), hb 16 (by omega) (by omega) (by omega)]; exact h4
  · unfold rDir at *; rw [hs 10 (by omega), hs 12 (by omega), ha 5 (by omega), hb 5 (by omega) (by omega) (by omega)]; exact h5
  · unfold rLog at *
    rw [hs 4 (by omega), hb 10 (by omega) (by omega) (by omega), hb 11 (by omega) (by omega) (by omega)]
    obtain ⟨q1, q2, q3, q4, q5, q6, q7, q8, q9⟩ := h6
    exact ⟨q1, q2, q3, q4, q5, q6, q7, q8, fun k hk => rTx_congr (hs 5 (by omega)) (hs 6 (by omega)) (hs 7 (by omega)) (hs 8 (by omega)) (hs 9 (by omega)) (ha 6 (by omega)) (ha 7 (by omega)) (ha 8 (by omega)) (ha 9 (by omega)) (q9 k hk)⟩
  · rw [rci_congr (ha 1 (by omega)) (ha 6 (by omega)) (ha 7 (by omega)) (ha 8 (by omega))]; exact h7
theorem rUp_pow {t t1 : tj_S} {c d : Nat} {e len : Nat → Nat} {rf rfC : Nat → Nat → Nat} (ht : tPow t t1) (h : rUp t c d e len rf rfC) : rUp t1 c d e len rf rfC := by
  obtain ⟨ha, hb⟩ := ht
  unfold rUp at *
  rw [ha 2 (by omega), ha 3 (by omega), ha 4 (by omega), hb 16 (by omega) (by omega) (by omega), rci_congr (ha 1 (by omega)) (ha 6 (by omega)) (ha 7 (by omega)) (ha 8 (by omega))]
  obtain ⟨q1, q2, q3, q4, q5, q6⟩ := h
  refine ⟨q1, q2, q3, q4, fun b hb hj => ?_, q6⟩
  obtain ⟨r1, r2⟩ := q5 b hb hj
  exact ⟨r1, fun w hw => by rw [rcv_congr (ha 1 (by omega)) (ha 6 (by omega)) (ha 7 (by omega)) (ha 8 (by omega))]; exact r2 w hw⟩
/-- one write: the class's makeWrite, the reference's spend -/
theorem sp_spec {s t : tj_S} (h : rPow s t) : ∃ (r : Int32) (s1 t1 : tj_S), f_Power_makeWrite s = some (r, s1) ∧ f_Mod_spend t = some (r, t1) ∧ rPow s1 t1 ∧ sPow s s1 ∧ tPow t t1 ∧ ((r = 0 ∧ t1 0 12 = 0) ∨ (r = 1 ∧ t1 0 12 = t 0 12)) := by
  obtain ⟨h1, h2, h3, h4⟩ := h
  unfold f_Power_makeWrite f_Mod_spend f_Mod_fail
  simp only [nm_s, bv_s]
  by_cases e0 : t 0 14 = 0
  · rw [if_pos (by rw [h2]; exact e0), if_pos e0]
    refine ⟨_, _, _, rfl, rfl, ⟨?_, ?_, ?_, ?_⟩, ?_, ⟨?_, ?_⟩, ?_⟩
    · simp [up2, upd]
    · simp [up2, upd]
    · simp [up2, upd, h3]
    · simp [up2, upd]
    · intro a ha; simp [up2, ha]
    · intro a ha; simp [up2, ha]
    · intro i h5 h6 h7; simp [up2, upd, h5, h6]
    · left; simp [up2, upd]
  · rw [if_neg (by rw [h2]; exact e0), if_neg e0]
    by_cases e1 : t 0 14 ≤ 0
    · rw [if_pos (by rw [h2]; exact e1), if_pos e1]
      refine ⟨_, _, _, rfl, rfl, ⟨?_, ?_, ?_, ?_⟩, ?_, ⟨?_, ?_⟩, ?_⟩
      · simp [up2, upd, h1]
      · simp [up2, upd, h2]
      · simp [up2, upd, h3]
      · simp [up2, upd]; exact h4
      · intro a ha; simp [up2, ha]
      · intro a ha; simp [up2, ha]
      · intro i h5 h6 h7; simp [up2, upd, h6, h7]
      · right; simp [up2, upd]
    · rw [if_neg (by rw [h2]; exact e1), if_neg e1]
      refine ⟨_, _, _, rfl, rfl, ⟨?_, ?_, ?_, ?_⟩, ?_, ⟨?_, ?_⟩, ?_⟩
      · simp [up2, upd, h1]
      · simp [up2, upd, h2]
      · simp [up2, upd, h3]
      · simp [up2, upd]; exact h4
      · intro a ha; simp [up2, ha]
      · intro a ha; simp [up2, ha]
      · intro i h5 h6 h7; simp [up2, upd, h6, h7]
      · right; simp [up2, upd]
-- the calls that change nothing, and fuse, crash
theorem up_cases {s t : tj_S} (h : rPow s t) : (s 1 0 = 0 ∧ t 0 12 = 0) ∨ (¬ s 1 0 = 0 ∧ ¬ t 0 12 = 0 ∧ t 0 12 = 1) := by
  obtain ⟨h1, h2, h3, h4⟩ := h
  rcases h4 with e | e
  · left; exact ⟨by rw [h1, e], e⟩
  · right; exact ⟨by rw [h1, e]; decide, by rw [e]; decide, e⟩
theorem q_mode : sim_mode pRel := by
  intro s t h
  obtain ⟨c, o, d, z, ab, e, lC, rC, hB, hU⟩ := id h
  unfold f_X_mode f_Mod_mode
  rcases up_cases hB.1 with ⟨e1, e2⟩ | ⟨e1, e2, e3⟩
  · exact ⟨_, _, _, if_pos e1, if_pos e2, h⟩
  · rw [if_neg e1, if_neg e2, hB.2.1.1]; exact ⟨_, _, _, rfl, rfl, h⟩
theorem q_writes : sim_writes pRel := by
  intro s t h
  obtain ⟨c, o, d, z, ab, e, lC, rC, hB, hU⟩ := id h
  unfold f_X_writes f_Mod_writes
  rw [hB.1.2.2.1]; exact ⟨_, _, _, rfl, rfl, h⟩
theorem q_head : sim_head pRel := by
  intro s t h
  obtain ⟨c, o, d, z, ab, e, lC, rC, hB, hU⟩ := id h
  unfold f_X_head f_Mod_head
  rcases up_cases hB.1 with ⟨e1, e2⟩ | ⟨e1, e2, e3⟩
  · exact ⟨_, _, _, if_pos e1, if_pos e2, h⟩
  · have hL := hB.2.2.2.2.2.1
    rw [if_neg e1, if_neg e2, hL.2.2.2.2.2.1, hL.2.2.2.2.2.2.1]; exact ⟨_, _, _, rfl, rfl, h⟩
theorem q_dirty : sim_dirty pRel := by
  intro s t h
  obtain ⟨c, o, d, z, ab, e, lC, rC, hB, hU⟩ := id h
  unfold f_X_dirty f_Mod_dirty
  rcases up_cases hB.1 with ⟨e1, e2⟩ | ⟨e1, e2, e3⟩
  · exact ⟨_, _, _, if_pos e1, if_pos e2, h⟩
  · have hD := hB.2.2.2.2.1
    rw [if_neg e1, if_neg e2, hD.2.1, hD.2.2.1]; exact ⟨_, _, _, rfl, rfl, h⟩
theorem q_need : sim_need pRel := by
  intro s t h
  obtain ⟨c, o, d, z, ab, e, lC, rC, hB, hU⟩ := id h
  unfold f_X_need f_Mod_need
  rcases up_cases hB.1 with ⟨e1, e2⟩ | ⟨e1, e2, e3⟩
  · exact ⟨_, _, _, if_pos e1, if_pos e2, h⟩
  · have hM := hB.2.2.2.1
    rw [if_neg e1, if_neg e2, lb_spec hM.1 hM.2.1, nd_spec hM.1.2 hM.2.1.2]; exact ⟨_, _, _, rfl, rfl, h⟩
theorem q_room : sim_room pRel := by
  intro s t h
  obtain ⟨c, o, d, z, ab, e, lC, rC, hB, hU⟩ := id h
  unfold f_X_room f_Mod_room
  rcases up_cases hB.1 with ⟨e1, e2⟩ | ⟨e1, e2, e3⟩
  · exact ⟨_, _, _, if_pos e1, if_pos e2, h⟩
  · have hL := hB.2.2.2.2.2.1
    rw [if_neg e1, if_neg e2, fp_spec hL, vc_spec hL]; exact ⟨_, _, _, rfl, rfl, h⟩
theorem q_free : sim_free pRel := by
  intro s t h
  obtain ⟨c, o, d, z, ab, e, lC, rC, hB, hU⟩ := id h
  unfold f_X_free f_Mod_free
  rcases up_cases hB.1 with ⟨e1, e2⟩ | ⟨e1, e2, e3⟩
  · exact ⟨_, _, _, if_pos e1, if_pos e2, h⟩
  · obtain ⟨len, rf, hu⟩ := hU e3
    rw [if_neg e1, if_neg e2, ops_spec hu.1, tc_spec hu.1 (hB.2.2.1.2 24 (by omega)) hB.2.2.2.1.2.2]; exact ⟨_, _, _, rfl, rfl, h⟩
theorem q_length : sim_length pRel := by
  intro a s t h
  obtain ⟨c, o, d, z, ab, e, lC, rC, hB, hU⟩ := id h
  unfold f_X_length f_Mod_length
  rcases up_cases hB.1 with ⟨e1, e2⟩ | ⟨e1, e2, e3⟩
  · exact ⟨_, _, _, if_pos e1, if_pos e2, h⟩
  · rw [if_neg e1, if_neg e2]
    rcases fl_cases a s t with ⟨f1, f2⟩ | ⟨j, hj, rfl, f1, f2⟩
    · rw [f1, f2]; exact ⟨_, _, _, rfl, rfl, h⟩
    · rw [f1, f2, bd_s, bd_s, if_neg (by decide), if_neg (by decide), ln_spec hj, bd_s, lnM, gd_in (by omega) (by omega), cl_n (by omega), hB.2.2.1.2 (4 * j) (by omega)]
      exact ⟨_, _, _, rfl, rfl, h⟩
theorem q_home : sim_home pRel := by
  intro a b s t h
  obtain ⟨c, o, d, z, ab, e, lC, rC, hB, hU⟩ := id h
  unfold f_X_home f_Mod_home f_X_isWord
  by_cases h1 : a < 0
  · rw [if_pos h1, if_pos h1]; exact ⟨_, _, _, rfl, rfl, h⟩
  by_cases h2 : (23 : Int32) ≤ a
  · rw [if_neg h1, if_pos h2, if_neg h1, if_pos h2]; exact ⟨_, _, _, rfl, rfl, h⟩
  by_cases h3 : b < 0
  · rw [if_neg h1, if_neg h2, if_pos h3, if_neg h1, if_neg h2, if_pos h3]; exact ⟨_, _, _, rfl, rfl, h⟩
  have e34 : (b ≤ (3 : Int32)) ↔ ¬ (4 : Int32) ≤ b := by
    rw [Int32.le_iff_toInt_le, Int32.le_iff_toInt_le]
    have e4 : (4 : Int32).toInt = 4 := by decide
    have e3 : (3 : Int32).toInt = 3 := by decide
    omega
  by_cases h4 : (4 : Int32) ≤ b
  · rw [if_neg h1, if_neg h2, if_neg h3, if_pos h4, if_neg h1, if_neg h2, if_neg h3, if_neg (fun q => e34.mp q h4)]; exact ⟨_, _, _, rfl, rfl, h⟩
  · rw [if_neg h1, if_neg h2, if_neg h3, if_neg h4, if_neg h1, if_neg h2, if_neg h3, if_pos (e34.mpr h4), bd_s, if_neg (by decide)]
    rcases pk_ix a (n := 23) (by omega) with q | q | ⟨i, hi, rfl⟩
    · exact absurd q h1
    · exact absurd q h2
    rcases pk_ix b (n := 4) (by omega) with q | q | ⟨j, hj, rfl⟩
    · exact absurd q h3
    · exact absurd q h4
    rw [adr, adr2, gd_in (by omega) (by omega), gd_in (by omega) (by omega), cl_n (by omega), hB.2.2.1.1 (4 * i + j) (by omega)]
    exact ⟨_, _, _, rfl, rfl, h⟩
theorem q_fuse : sim_fuse pRel := by
  intro a s t h
  obtain ⟨c, o, d, z, ab, e, lC, rC, hB, hU⟩ := id h
  obtain ⟨h1, h2, h3, h4⟩ := hB.1
  have key : ∀ v : Int32, pRel (up2 s 1 1 v) (up2 t 0 14 v) := by
    intro v
    have hs : sPow s (up2 s 1 1 v) := fun a ha => by simp [up2, ha]
    have ht : tPow t (up2 t 0 14 v) := ⟨fun a ha => by simp [up2, ha], fun i h5 h6 h7 => by simp [up2, upd, h6]⟩
    refine ⟨c, o, d, z, ab, e, lC, rC, rB_pow hs ht ⟨?_, ?_, ?_, ?_⟩ hB, fun hq => ?_⟩
    · simp [up2, upd, h1]
    · simp [up2, upd]
    · simp [up2, upd, h3]
    · simp [up2, upd]; exact h4
    · have hq : t 0 12 = 1 := by simpa [up2, upd] using hq
      obtain ⟨len, rf, hu⟩ := hU hq
      exact ⟨len, rf, rUp_pow ht hu⟩
  unfold f_X_fuse f_Mod_fuse
  by_cases q : (0 : Int32) ≤ a
  · rw [if_pos q, if_pos q]; exact ⟨_, _, rfl, rfl, key a⟩
  · rw [if_neg q, if_neg q]; exact ⟨_, _, rfl, rfl, key (-1)⟩
theorem q_crash : sim_crash pRel := by
  intro s t h
  obtain ⟨c, o, d, z, ab, e, lC, rC, hB, hU⟩ := id h
  unfold f_X_crash f_Mod_crash f_Mod_fail
  simp only [nm_s, bv_s]
  rcases up_cases hB.1 with ⟨e1, e2⟩ | ⟨e1, e2, e3⟩
  · rw [if_pos e1, if_pos e2, e2]; exact ⟨_, _, _, rfl, rfl, h⟩
  · rw [if_neg e1, if_neg e2, e3]
    refine ⟨_, _, _, rfl, rfl, c, o, d, z, ab, e, lC, rC, rB_pow (fun a ha => by simp [up2, ha]) ⟨fun a ha => by simp [up2, ha], fun i h5 h6 h7 => by simp [up2, upd, h5, h6]⟩ ⟨?_, ?_, ?_, ?_⟩ hB, fun hq => ?_⟩
    · simp [up2, upd]
    · simp [up2, upd]
    · simp [up2, upd, hB.1.2.2.1]
    · simp [up2, upd]
    · simp [up2, upd] at hq
