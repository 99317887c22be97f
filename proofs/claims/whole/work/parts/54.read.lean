theorem db_spec {s t : tj_S} {len : Nat → Nat} {rf : Nat → Nat → Nat} (hw : rWrd s t) (hR : fsR (t 2) len rf) {f i : Nat} (hf : f < 6) (hi : i < 6) (h8 : 2 ≤ i → 8 < len f) : f_Mem_dataBlock (nI f) (nI i) s = some (nI (rf f i), s) := by
  have hF := hR.1 f hf
  have hlt := fsF_lt hF
  obtain ⟨h0, h1, h2, h3, h4, h5, h6, h7⟩ := hF
  unfold f_Mem_dataBlock
  by_cases q : 2 ≤ i
  · obtain ⟨g1, g2, g3⟩ := h6 (h8 q)
    rw [if_pos (by rw [show ((2 : Int32) ≤ nI i) = (2 ≤ i) from le_n (a := 2) (by omega) (by omega)]; exact q)]
    rw [show (3 : Int32) = nI 3 from rfl, wd_spec (by omega) (by omega), bd_s, hw.2 (4 * f + 3) (by omega), h4]
    rw [show (nI i - 2 : Int32) = nI (i - 2) from pk_sub (b := 2) q, wd_spec g2 (by omega), bd_s, hw.2 _ (by omega), g3 (i - 2) (by omega), show i - 2 + 2 = i by omega]
  · rw [if_neg (by rw [show ((2 : Int32) ≤ nI i) = (2 ≤ i) from le_n (a := 2) (by omega) (by omega)]; exact q)]
    rw [show (1 + nI i : Int32) = nI (1 + i) from nI_add 1 i, wd_spec (by omega) (by omega), bd_s, hw.2 _ (by omega)]
    have : i = 0 ∨ i = 1 := by omega
    rcases this with rfl | rfl
    · rw [show 4 * f + (1 + 0) = 4 * f + 1 by omega, h2]
    · rw [show 4 * f + (1 + 1) = 4 * f + 2 by omega, h3]
def cel (rf : Nat → Nat → Nat) (f i : Nat) : Nat := if i < 2 then 4 * f + 1 + i else 4 * rf f 6 + (i - 2)
theorem ce_spec {t : tj_S} {f i : Nat} {rf : Nat → Nat → Nat} (hf : f < 6) (hi : i < 6) (h4 : 2 ≤ i → t 2 (4 * f + 3) = nI (rf f 6)) : f_Mod_cell (nI f) (nI i) t = some (nI (cel rf f i), t) := by
  unfold f_Mod_cell cel
  by_cases q : 2 ≤ i
  · rw [if_pos (by rw [show ((2 : Int32) ≤ nI i) = (2 ≤ i) from le_n (a := 2) (by omega) (by omega)]; exact q), if_neg (by omega)]
    rw [show (4 * nI f + 3 : Int32) = nI (4 * f + 3) from adr2 (w := 3), gd_in (by omega) (by omega), cl_n (by omega), h4 q, lnM, nI_add, show (nI (4 * rf f 6 + i) - 2 : Int32) = nI (4 * rf f 6 + i - 2) from pk_sub (b := 2) (by omega), show 4 * rf f 6 + i - 2 = 4 * rf f 6 + (i - 2) by omega]
  · rw [if_neg (by rw [show ((2 : Int32) ≤ nI i) = (2 ≤ i) from le_n (a := 2) (by omega) (by omega)]; exact q), if_pos (by omega)]
    rw [show (4 * nI f + 1 : Int32) = nI (4 * f + 1) from adr2 (w := 1), nI_add]
theorem ce_val {t : tj_S} {len : Nat → Nat} {rf : Nat → Nat → Nat} (hR : fsR (t 2) len rf) {f i : Nat} (hf : f < 6) (hi : i < 6) (h8 : 2 ≤ i → 8 < len f) : t 2 (cel rf f i) = nI (rf f i) ∧ cel rf f i < 92 := by
  have hF := hR.1 f hf
  have hlt := fsF_lt hF
  obtain ⟨h0, h1, h2, h3, h4, h5, h6, h7⟩ := hF
  unfold cel
  by_cases q : 2 ≤ i
  · obtain ⟨g1, g2, g3⟩ := h6 (h8 q)
    rw [if_neg (by omega), g3 (i - 2) (by omega), show i - 2 + 2 = i by omega]
    exact ⟨rfl, by omega⟩
  · rw [if_pos (by omega)]
    have : i = 0 ∨ i = 1 := by omega
    rcases this with rfl | rfl
    · exact ⟨h2, by omega⟩
    · exact ⟨h3, by omega⟩
theorem h10 : ¬ (1 : Int32) = 0 := by decide
theorem dv4 {p : Nat} (h : p < 2 ^ 31) : (nI p / 4 : Int32) = nI (p / 4) := pk_div (d := 4) h (by omega) (by omega)
theorem md4 {p : Nat} (h : p < 2 ^ 31) : (nI p - nI p / 4 * 4 : Int32) = nI (p % 4) := pk_rem (d := 4) h (by omega) (by omega)
theorem q_read : sim_read pRel := by
  intro a b s t h
  obtain ⟨c, o, d, z, ab, e, lC, rC, hB, hU⟩ := id h
  unfold f_X_read f_Mod_read
  rcases up_cases hB.1 with ⟨e1, e2⟩ | ⟨e1, e2, e3⟩
  · exact ⟨_, _, _, if_pos e1, if_pos e2, h⟩
  · obtain ⟨len, rf, hu⟩ := hU e3
    have hR := hu.1
    have hW := hB.2.2.1
    rw [if_neg e1, if_neg e2]
    rcases fl_cases a s t with ⟨f1, f2⟩ | ⟨f, hf, rfl, f1, f2⟩
    · rw [f1, f2]; exact ⟨_, _, _, rfl, rfl, h⟩
    · rw [f1, f2, bd_s, bd_s, if_neg h10, if_neg h10]
      by_cases hb : b < 0
      · rw [if_pos hb, if_pos hb]; exact ⟨_, _, _, rfl, rfl, h⟩
      obtain ⟨p, hp, rfl⟩ := nI_of hb
      have hF := hR.1 f hf
      obtain ⟨g0, g1, -, -, g4, g5, -, -⟩ := hF
      rw [if_neg hb, if_neg hb, ln_spec hf, bd_s, lnM, gd_in (by omega) (by omega), cl_n (by omega), hW.2 (4 * f) (by omega), g1]
      by_cases hl : p < len f
      · rw [if_pos (by rw [lt_n (by omega) (by omega)]; exact hl), if_pos (by rw [lt_n (by omega) (by omega)]; exact hl), md4 hp, dv4 hp]
        have hv := (g5 (p / 4) (by omega)).1 (by omega)
        rw [db_spec hW hR hf (by omega) (fun _ => by omega), bd_s, wd_spec hv.2 (by omega), bd_s]
        obtain ⟨v1, v2⟩ := ce_val hR hf (i := p / 4) (by omega) (fun _ => by omega)
        rw [ce_spec (rf := rf) hf (by omega) (fun _ => g4), bd_s, gd_in v2 (by omega), nm_s, cl_n (by omega), v1, adr2, gd_in (by omega) (by omega), cl_n (by omega), hW.2 _ (by omega)]
        exact ⟨_, _, _, rfl, rfl, h⟩
      · rw [if_neg (by rw [lt_n (by omega) (by omega)]; exact hl), if_neg (by rw [lt_n (by omega) (by omega)]; exact hl)]
        exact ⟨_, _, _, rfl, rfl, h⟩
