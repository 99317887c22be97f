theorem da_spec {s t : tj_S} {d k : Nat} {e : Nat → Nat} (h : rDir s t d e) (hk : k < d) : f_Mem_dirtyAt (nI k) s = some (nI (e k), s) := by
  obtain ⟨hd, h2, h5, hE, hI⟩ := h
  unfold f_Mem_dirtyAt
  rw [if_neg (nI_pos (by omega)), h2, if_neg (by rw [le_n (by omega) (by omega)]; omega), gd_in (by omega) (by omega), cl_n (by omega), (hE k hk).1]
theorem fl_L {a : Int32} {M : Nat} (hM : M ≤ 16) (haM : ∀ i, i < M → nI i < a) {c o : Nat} {z ab lenC len : Nat → Nat} {rfC rf : Nat → Nat → Nat} (km : Int32 → tj_S → Option (Int32 × tj_S)) : ∀ m i n1 n2 d (e : Nat → Nat) (s t : tj_S), i + m = M → m ≤ d → (a ≤ nI M ∨ m = d) → m < n1 → m < n2 → rB s t c o d z ab e lenC rfC → t 0 12 = 1 → rUp t c d e len rf rfC →
    ∃ (r : Int32) (s1 t1 : tj_S), f_X_writeFirstDirty_L2 (nI M) (fun _ s => some (1, s)) n1 (nI i) s = some (r, s1) ∧ pRel s1 t1 ∧ ((r = 0 ∧ f_Mod_flush_L16 a km n2 (nI i) t = some (-2, t1)) ∨ (r = 1 ∧ f_Mod_flush_L16 a km n2 (nI i) t = km (nI M) t1)) := by
  intro m
  induction m with
  | zero =>
    intro i n1 n2 d e s t hi hmd hend hn1 hn2 hB hup hU
    have : i = M := by omega
    subst this
    obtain ⟨n1, rfl⟩ : ∃ n, n1 = n + 1 := ⟨n1 - 1, by omega⟩
    obtain ⟨n2, rfl⟩ : ∃ n, n2 = n + 1 := ⟨n2 - 1, by omega⟩
    rw [f_X_writeFirstDirty_L2, f_Mod_flush_L16, if_pos (by rw [le_n (by omega) (by omega)]; exact Nat.le_refl _)]
    refine ⟨1, s, t, rfl, ⟨c, o, d, z, ab, e, lenC, rfC, hB, fun _ => ⟨len, rf, hU⟩⟩, Or.inr ⟨rfl, ?_⟩⟩
    by_cases q : a ≤ nI i
    · rw [if_pos q]
    · rw [if_neg q]
      have hd0 : d = 0 := hend.elim (fun h => absurd h q) (fun h => h.symm)
      have h5 := hB.2.2.2.2.1.2.2.1
      rw [h5, hd0, if_pos (by decide)]
  | succ m ih =>
    intro i n1 n2 d e s t hi hmd hend hn1 hn2 hB hup hU
    obtain ⟨n1, rfl⟩ : ∃ n, n1 = n + 1 := ⟨n1 - 1, by omega⟩
    obtain ⟨n2, rfl⟩ : ∃ n, n2 = n + 1 := ⟨n2 - 1, by omega⟩
    have hd16 := hB.2.2.2.2.1.1
    obtain ⟨r, s1, t1, b1, b2, b3⟩ := br_spec hB hup hU (k := 0) (by omega)
    have hlt := haM i (by omega)
    have hna : ¬ a ≤ nI i := by
      rw [Int32.le_iff_toInt_le]; rw [Int32.lt_iff_toInt_lt] at hlt; omega
    rw [f_X_writeFirstDirty_L2, f_Mod_flush_L16, if_neg (by rw [le_n (by omega) (by omega)]; omega), if_neg hna, hB.2.2.2.2.1.2.2.1, if_neg (nI_nle (by omega) (by omega))]
    rw [show (0 : Int32) = nI 0 from rfl, da_spec hB.2.2.2.2.1 (by omega), bd_s, b1, bd_s, b2, bd_s]
    rcases b3 with ⟨rfl, hp⟩ | ⟨rfl, d1, e1, hd1, hB1, hU1, hup1, -⟩
    · rw [if_pos (by rfl), if_pos (by rfl)]
      exact ⟨0, s1, t1, rfl, hp, Or.inl ⟨rfl, rfl⟩⟩
    · rw [if_neg (by decide), if_neg (by decide), nm_s, nm_s, nI_s]
      exact ih (i + 1) n1 n2 d1 e1 s1 t1 (by omega) (by omega) (hend.elim Or.inl (fun h => Or.inr (by omega))) (by omega) (by omega) hB1 hup1 hU1
theorem q_flush : sim_flush pRel := by
  intro a s t h
  obtain ⟨c, o, d, z, ab, e, lC, rC, hB, hU⟩ := id h
  unfold f_X_flush f_Mod_flush
  rcases up_cases hB.1 with ⟨e1, e2⟩ | ⟨e1, e2, e3⟩
  · exact ⟨_, _, _, if_pos e1, if_pos e2, h⟩
  · obtain ⟨len, rf, hu⟩ := hU e3
    rw [if_neg e1, if_neg e2]
    by_cases h1 : (1 : Int32) ≤ a
    · rw [if_pos h1, if_pos h1, nm_s]
      have hd := hB.2.2.2.2.1.1
      rw [hB.2.2.2.2.1.2.1]
      have hpos : ¬ a < 0 := by
        rw [Int32.lt_iff_toInt_lt]; rw [Int32.le_iff_toInt_le] at h1
        have k1 : (1 : Int32).toInt = 1 := by decide
        have k0 : (0 : Int32).toInt = 0 := by decide
        omega
      obtain ⟨p, hp, rfl⟩ := nI_of hpos
      -- how many are due
      obtain ⟨M, hM1, hM2, hM3⟩ : ∃ M, (if nI d < nI p then nI d else nI p) = nI M ∧ M ≤ d ∧ (M = p ∨ (M = d ∧ d < p)) := by
        by_cases q : d < p
        · exact ⟨d, by rw [if_pos (by rw [lt_n (by omega) hp]; exact q)], Nat.le_refl _, Or.inr ⟨rfl, q⟩⟩
        · exact ⟨p, by rw [if_neg (by rw [lt_n (by omega) hp]; exact q)], by omega, Or.inl rfl⟩
      rw [hM1]
      obtain ⟨r, s1, t1, w1, w2, w3⟩ := fl_L (a := nI p) (M := M) (by omega) (fun i hi => by rw [lt_n (by omega) hp]; omega) (fun x13 s14 => some (x13, s14)) M 0 100 100 d e s t (by omega) hM2 (hM3.elim (fun q => Or.inl (by rw [q, le_n hp hp]; exact Nat.le_refl _)) (fun q => Or.inr q.1)) (by omega) (by omega) hB e3 hu
      rw [show f_X_writeFirstDirty (nI M) s = some (r, s1) from w1, bd_s]
      rcases w3 with ⟨rfl, w3⟩ | ⟨rfl, w3⟩
      · rw [if_pos rfl]; exact ⟨_, _, _, rfl, w3, w2⟩
      · rw [if_neg h10]; exact ⟨_, _, _, rfl, w3, w2⟩
    · rw [if_neg h1, if_neg h1]; exact ⟨_, _, _, rfl, rfl, h⟩
/-- ORDERED: all dirty blocks go home before the commit -/
theorem or_L {M : Nat} (hM : M ≤ 16) {c o : Nat} {z ab lenC len : Nat → Nat} {rfC rf : Nat → Nat → Nat} (km : tj_S → Option (Int32 × tj_S)) : ∀ m i n1 n2 (e : Nat → Nat) (s t : tj_S), i + m = M → m < n1 → m < n2 → rB s t c o m z ab e lenC rfC → t 0 12 = 1 → t 0 13 = 1 → rUp t c m e len rf rfC →
    ∃ (r : Int32) (s1 t1 : tj_S), f_X_writeFirstDirty_L2 (nI M) (fun _ s => some (1, s)) n1 (nI i) s = some (r, s1) ∧ ((r = 0 ∧ pRel s1 t1 ∧ f_Mod_seal_L0 km n2 t = some (-2, t1)) ∨ (r = 1 ∧ f_Mod_seal_L0 km n2 t = km t1 ∧ ∃ e1 : Nat → Nat, rB s1 t1 c o 0 z ab e1 lenC rfC ∧ t1 0 12 = 1 ∧ rUp t1 c 0 e1 len rf rfC ∧ t1 2 = t 2 ∧ t1 0 13 = t 0 13 ∧ t1 0 16 = t 0 16)) := by
  intro m
  induction m with
  | zero =>
    intro i n1 n2 e s t hi hn1 hn2 hB hup hk hU
    obtain ⟨n1, rfl⟩ : ∃ n, n1 = n + 1 := ⟨n1 - 1, by omega⟩
    obtain ⟨n2, rfl⟩ : ∃ n, n2 = n + 1 := ⟨n2 - 1, by omega⟩
    have : i = M := by omega
    subst this
    rw [f_X_writeFirstDirty_L2, f_Mod_seal_L0, if_pos (Int32.le_refl _), if_pos hk, hB.2.2.2.2.1.2.2.1, if_pos (by decide)]
    exact ⟨1, s, t, rfl, Or.inr ⟨rfl, rfl, e, hB, hup, hU, rfl, rfl, rfl⟩⟩
  | succ m ih =>
    intro i n1 n2 e s t hi hn1 hn2 hB hup hk hU
    obtain ⟨n1, rfl⟩ : ∃ n, n1 = n + 1 := ⟨n1 - 1, by omega⟩
    obtain ⟨n2, rfl⟩ : ∃ n, n2 = n + 1 := ⟨n2 - 1, by omega⟩
    have hd16 := hB.2.2.2.2.1.1
    obtain ⟨r, s1, t1, b1, b2, b3⟩ := br_spec hB hup hU (k := 0) (by omega)
    rw [f_X_writeFirstDirty_L2, f_Mod_seal_L0, if_neg (by rw [le_n (by omega) (by omega)]; omega), if_pos hk, hB.2.2.2.2.1.2.2.1, if_neg (nI_nle (by omega) (by omega))]
    rw [show (0 : Int32) = nI 0 from rfl, da_spec hB.2.2.2.2.1 (by omega), bd_s, b1, bd_s, b2, bd_s]
    rcases b3 with ⟨rfl, hp⟩ | ⟨rfl, d1, e1, hd1, hB1, hU1, hup1, hk1, hf2, hf16⟩
    · rw [if_pos (by rfl), if_pos (by rfl)]
      exact ⟨0, s1, t1, rfl, Or.inl ⟨rfl, hp, rfl⟩⟩
    · have : d1 = m := by omega
      subst this
      rw [if_neg (by decide), if_neg (by decide), nm_s, nI_s]
      obtain ⟨r2, s2, t2, g1, g2⟩ := ih (i + 1) n1 n2 e1 s1 t1 (by omega) (by omega) (by omega) hB1 hup1 (by rw [hk1, hk]) hU1
      refine ⟨r2, s2, t2, g1, ?_⟩
      rcases g2 with g2 | ⟨g2, g3, e2, g4, g5, g6, g7, g8, g9⟩
      · exact Or.inl g2
      · exact Or.inr ⟨g2, g3, e2, g4, g5, g6, by rw [g7, hf2], by rw [g8, hk1], by rw [g9, hf16]⟩
