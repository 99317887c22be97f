theorem anyS (p : Nat → Bool) (a n : Nat) : anyB p a (n + 1) = (p a || anyB p (a + 1) n) := by
  induction n with
  | zero => simp [anyB]
  | succ n ih =>
    show (anyB p a (n + 1) || p (a + (n + 1))) = (p a || (anyB p (a + 1) n || p (a + 1 + n)))
    rw [ih, Bool.or_assoc, show a + (n + 1) = a + 1 + n by omega]
def ownB (rf : Nat → Nat → Nat) (n f b : Nat) : Bool := anyB (fun i => rf f i == b) 0 ((n + 3) / 4)
theorem df_spec {n : Nat} (hn : n < 1000) (s : tj_S) : f_X_dataBlocksFor (nI n) s = some (nI ((n + 3) / 4), s) := bn_spec hn s
section sy
variable {len : Nat → Nat} {rf : Nat → Nat → Nat}
theorem id_L {s t : tj_S} (hw : rWrd s t) (hR : fsR (t 2) len rf) {f b : Nat} (hf : f < 6) (hb : b < 1000) (k : Int32 → tj_S → Option (Int32 × tj_S)) : ∀ m i n, i + m = (len f + 3) / 4 → m < n → f_Mem_isDataBlockOf_L12 (nI f) (nI b) (nI ((len f + 3) / 4)) k n (nI i) s = if anyB (fun i => rf f i == b) i m = true then some (1, s) else k (nI ((len f + 3) / 4)) s := by
  have h24 := (hR.1 f hf).1
  intro m
  induction m with
  | zero =>
    intro i n h hn
    obtain ⟨n, rfl⟩ : ∃ m, n = m + 1 := ⟨n - 1, by omega⟩
    have : i = (len f + 3) / 4 := by omega
    subst this
    rw [f_Mem_isDataBlockOf_L12, if_pos (Int32.le_refl _), if_neg (by simp [anyB])]
  | succ m ih =>
    intro i n h hn
    obtain ⟨n, rfl⟩ : ∃ m, n = m + 1 := ⟨n - 1, by omega⟩
    have hl := fsF_lt (hR.1 f hf) i (by omega)
    rw [f_Mem_isDataBlockOf_L12, if_neg (by rw [le_n (by omega) (by omega)]; omega), if_neg (by rw [show ((6 : Int32) ≤ nI i) = (6 ≤ i) from le_n (a := 6) (by omega) (by omega)]; omega), db_spec hw hR hf (by omega) (fun _ => by omega), bd_s, anyS]
    by_cases q : rf f i = b
    · rw [if_pos (by rw [q]), if_pos (by simp [q])]
    · rw [if_neg (by rw [eq_n (by omega) (by omega)]; exact q), nm_s, nI_s, ih (i + 1) n (by omega) (by omega)]
      simp [q]
theorem id_spec {s t : tj_S} (hw : rWrd s t) (hR : fsR (t 2) len rf) {f b : Nat} (hf : f < 6) (hb : b < 1000) : f_Mem_isDataBlockOf (nI f) (nI b) s = some (if ownB rf (len f) f b = true then 1 else 0, s) := by
  have hF := hR.1 f hf
  have h24 := hF.1
  unfold f_Mem_isDataBlockOf ownB
  rw [ln_spec hf, bd_s, hw.2 _ (by omega), hF.2.1, df_spec (by omega), bd_s, show (0 : Int32) = nI 0 from rfl, id_L hw hR hf hb _ ((len f + 3) / 4) 0 100 (by omega) (by omega)]
  split <;> rfl
theorem ow_2 {t : tj_S} (hR : fsR (t 2) len rf) {f b : Nat} (hf : f < 6) (hb : b < 1000) (k : Int32 → tj_S → Option (Int32 × tj_S)) : ∀ m i n, i + m = 6 → m < n → f_Mod_owns_L2 (nI f) (nI b) k n (nI i) t = if anyB (fun i => rf f i == b) i ((len f + 3) / 4 - i) = true then some (1, t) else k (nI 6) t := by
  have hF := hR.1 f hf
  have h24 := hF.1
  intro m
  induction m with
  | zero =>
    intro i n h hn
    obtain ⟨n, rfl⟩ : ∃ m, n = m + 1 := ⟨n - 1, by omega⟩
    have : i = 6 := by omega
    subst this
    rw [f_Mod_owns_L2, if_pos (by decide), show (len f + 3) / 4 - 6 = 0 by omega, if_neg (by simp [anyB])]
  | succ m ih =>
    intro i n h hn
    obtain ⟨n, rfl⟩ : ∃ m, n = m + 1 := ⟨n - 1, by omega⟩
    have hl := fsF_lt hF i (by omega)
    rw [f_Mod_owns_L2, if_neg (by rw [show ((6 : Int32) ≤ nI i) = (6 ≤ i) from le_n (a := 6) (by omega) (by omega)]; omega), lnM, gd_in (by omega) (by omega), cl_n (by omega), hF.2.1, lnM]
    by_cases q0 : len f ≤ 4 * i
    · rw [if_pos (by rw [le_n (by omega) (by omega)]; exact q0), nm_s, nI_s, ih (i + 1) n (by omega) (by omega), show (len f + 3) / 4 - (i + 1) = 0 by omega, show (len f + 3) / 4 - i = 0 by omega]
      simp [anyB]
    · obtain ⟨v1, v2⟩ := ce_val hR hf (i := i) (by omega) (fun _ => by omega)
      rw [if_neg (by rw [le_n (by omega) (by omega)]; exact q0), ce_spec (rf := rf) hf (by omega) (fun _ => hF.2.2.2.2.1), bd_s, gd_in v2 (by omega), cl_n (by omega), v1, show (len f + 3) / 4 - i = ((len f + 3) / 4 - (i + 1)) + 1 by omega, anyS]
      by_cases q : rf f i = b
      · rw [if_pos (by rw [q]), if_pos (by simp [q])]
      · rw [if_neg (by rw [eq_n (by omega) (by omega)]; exact q), nm_s, nI_s, ih (i + 1) n (by omega) (by omega)]
        simp [q]
theorem ow_spec {t : tj_S} (hR : fsR (t 2) len rf) {f b : Nat} (hf : f < 6) (hb : b < 1000) : f_Mod_owns (nI f) (nI b) t = some (if ownB rf (len f) f b = true then 1 else 0, t) := by
  unfold f_Mod_owns ownB
  rw [show (0 : Int32) = nI 0 from rfl, ow_2 hR hf hb _ 6 0 100 (by omega) (by omega), Nat.sub_zero]
  split <;> rfl
variable {c o : Nat} {z ab lenC : Nat → Nat} {rfC : Nat → Nat → Nat}
theorem sy_L {f all : Nat} (hf : f < 6) (hall : all ≤ 16) (kx : Int32 → Int32 → tj_S → Option (Int32 × tj_S)) (km : Int32 → tj_S → Option (Int32 × tj_S)) : ∀ m p i n1 n2 d (e : Nat → Nat) (s t : tj_S), p + m = d → i + m = all → m < n1 → m < n2 → rPR s t c o d z ab e lenC len rfC rf → t 0 12 = 1 → t 0 13 = 0 →
    ∃ (s1 t1 : tj_S), (f_X_writeDirtyOfFile_L13 (nI f) (nI all) kx n1 (nI p) (nI i) s = some (0, s1) ∧ f_Mod_sync_L18 (nI f) km n2 (nI p) t = some (0, t1) ∧ pRel s1 t1) ∨
      (∃ (x x1 y : Int32) (d1 : Nat) (e1 : Nat → Nat), f_X_writeDirtyOfFile_L13 (nI f) (nI all) kx n1 (nI p) (nI i) s = kx x x1 s1 ∧ f_Mod_sync_L18 (nI f) km n2 (nI p) t = km y t1 ∧ rPR s1 t1 c o d1 z ab e1 lenC len rfC rf ∧ t1 0 12 = 1) := by
  intro m
  induction m with
  | zero =>
    intro p i n1 n2 d e s t h1 h2 hn1 hn2 hR hup hk
    obtain ⟨n1, rfl⟩ : ∃ n, n1 = n + 1 := ⟨n1 - 1, by omega⟩
    obtain ⟨n2, rfl⟩ : ∃ n, n2 = n + 1 := ⟨n2 - 1, by omega⟩
    have ep : p = d := by omega
    have ei : i = all := by omega
    subst ep; subst ei
    rw [f_X_writeDirtyOfFile_L13, f_Mod_sync_L18, if_pos (Int32.le_refl _), if_pos hk, hR.1.2.2.2.2.1.2.2.1, if_pos (Int32.le_refl _)]
    exact ⟨s, t, Or.inr ⟨_, _, _, p, e, rfl, rfl, hR, hup⟩⟩
  | succ m ih =>
    intro p i n1 n2 d e s t h1 h2 hn1 hn2 hR hup hk
    obtain ⟨n1, rfl⟩ : ∃ n, n1 = n + 1 := ⟨n1 - 1, by omega⟩
    obtain ⟨n2, rfl⟩ : ∃ n, n2 = n + 1 := ⟨n2 - 1, by omega⟩
    have hD := hR.1.2.2.2.2.1
    have hd := hD.1
    have hU := hR.2 hup
    obtain ⟨v1, v2, v3, v4⟩ := hD.2.2.2.1 p (by omega)
    rw [f_X_writeDirtyOfFile_L13, f_Mod_sync_L18, if_neg (by rw [le_n (by omega) (by omega)]; omega), if_pos hk, hD.2.2.1, if_neg (by rw [le_n (by omega) (by omega)]; omega), da_spec hD (by omega), bd_s, gd_in (by omega) (by omega), cl_n (by omega), v2]
    rw [id_spec hR.1.2.2.1 hU.1 hf (by omega), bd_s, ow_spec hU.1 hf (by omega), bd_s]
    cases ownB rf (len f) f (e p) with
    | false =>
      rw [if_pos (show (if false = true then (1 : Int32) else 0) = 0 from rfl), if_pos (show (if false = true then (1 : Int32) else 0) = 0 from rfl), nm_s, nm_s, nm_s, nI_s, nI_s]
      exact ih (p + 1) (i + 1) n1 n2 d e s t (by omega) (by omega) (by omega) (by omega) hR hup hk
    | true =>
      rw [if_neg (show ¬ (if true = true then (1 : Int32) else 0) = 0 from by decide), if_neg (show ¬ (if true = true then (1 : Int32) else 0) = 0 from by decide)]
      obtain ⟨r, s1, t1, b1, b2, b3⟩ := br_spec hR.1 hup hU (k := p) (by omega)
      rw [b1, b2, bd_s, bd_s]
      rcases b3 with ⟨rfl, hp⟩ | ⟨rfl, d1, e1, hd1, hB1, hU1, hup1, hk1, -⟩
      · rw [if_pos rfl, if_pos rfl]
        exact ⟨s1, t1, Or.inl ⟨rfl, rfl, hp⟩⟩
      · rw [if_neg h10, if_neg h10, nm_s, nI_s]
        exact ih p (i + 1) n1 n2 d1 e1 s1 t1 (by omega) (by omega) (by omega) (by omega) ⟨hB1, fun _ => hU1⟩ hup1 (by rw [hk1, hk])
end sy
theorem sy_end {c o d : Nat} {z ab e lenC len : Nat → Nat} {rfC rf : Nat → Nat → Nat} {s t : tj_S} (hR : rPR s t c o d z ab e lenC len rfC rf) (hup : t 0 12 = 1) : ∃ (r : Int32) (s1 t1 : tj_S), (bd (f_X_commitRunning s) fun r13 s12 => if r13 = (-2 : Int32) then some ((0 : Int32), s12) else some ((1 : Int32), s12)) = some (r, s1) ∧ (bd (f_Mod_seal t) fun r25 s24 => if r25 = (-2 : Int32) then some ((0 : Int32), s24) else some ((1 : Int32), s24)) = some (r, t1) ∧ pRel s1 t1 := by
  obtain ⟨r, s1, t1, w1, w2, w3⟩ := se_spec hR hup
  rw [w1, w2, bd_s, bd_s]
  rcases w3 with ⟨rfl, w3⟩ | ⟨h2, w3⟩
  · rw [if_pos rfl, if_pos rfl]; exact ⟨_, _, _, rfl, rfl, w3⟩
  · rw [if_neg h2, if_neg h2]; exact ⟨_, _, _, rfl, rfl, okC_p w3⟩
theorem q_sync : sim_sync pRel := by
  intro a s t h
  obtain ⟨c, o, d, z, ab, e, lC, rC, hB, hU⟩ := id h
  unfold f_X_sync f_Mod_sync
  rcases up_cases hB.1 with ⟨e1, e2⟩ | ⟨e1, e2, e3⟩
  · exact ⟨_, _, _, if_pos e1, if_pos e2, h⟩
  · obtain ⟨len, rf, hu⟩ := hU e3
    rw [if_neg e1, if_neg e2]
    have hR : rPR s t c o d z ab e lC len rC rf := ⟨hB, fun _ => hu⟩
    rcases fl_cases a s t with ⟨f1, f2⟩ | ⟨f, hf, rfl, f1, f2⟩
    · rw [f1, f2, bd_s, bd_s, if_pos rfl, if_pos rfl]; exact ⟨_, _, _, rfl, rfl, h⟩
    · rw [f1, f2, bd_s, bd_s, if_neg h10, if_neg h10]
      have hd := hB.2.2.2.2.1.1
      by_cases q : t 0 13 = 0
      · rw [if_pos (by rw [hB.2.1.1]; exact q)]
        obtain ⟨s1, t1, hh⟩ := sy_L (f := f) (all := d) hf hd (fun x25 x26 s27 => some ((1 : Int32), s27)) (fun x21 s22 => bd (f_Mod_seal s22) fun r25 s24 => if r25 = (-2 : Int32) then some ((0 : Int32), s24) else some ((1 : Int32), s24)) d 0 0 100 100 d e s t (by omega) (by omega) (by omega) (by omega) hR e3 q
        have w : f_X_writeDirtyOfFile (nI f) s = f_X_writeDirtyOfFile_L13 (nI f) (nI d) (fun x25 x26 s27 => some ((1 : Int32), s27)) 100 (nI 0) (nI 0) s := by
          unfold f_X_writeDirtyOfFile
          rw [nm_s, hB.2.2.2.2.1.2.1]; rfl
        rw [w]
        rcases hh with ⟨g1, g2, g3⟩ | ⟨x, x1, y, d1, e4, g1, g2, g3, g4⟩
        · rw [g1, bd_s, if_pos rfl]
          exact ⟨_, _, _, rfl, g2, g3⟩
        · rw [g1, bd_s, if_neg h10]
          obtain ⟨r, s2, t2, k1, k2, k3⟩ := sy_end g3 g4
          exact ⟨r, s2, t2, k1, Eq.trans g2 k2, k3⟩
      · rw [if_neg (by rw [hB.2.1.1]; exact q), f_Mod_sync_L18, if_neg q]
        exact sy_end hR e3
