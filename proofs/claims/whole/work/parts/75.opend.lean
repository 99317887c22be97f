theorem cn_imp {f g : Nat → Int32} : ∀ n, (∀ i, i < n → f i = 1 → g i = 1) → cn f n ≤ cn g n
  | 0, _ => Nat.le_refl _
  | n + 1, h => by
    have := cn_imp n (fun i hi => h i (by omega))
    show cn f n + _ ≤ cn g n + _
    by_cases q : f n = 1
    · rw [if_pos q, if_pos (h n (by omega) q)]; omega
    · rw [if_neg q]; omega
theorem cn_upd1 {f : Nat → Int32} {b : Nat} : ∀ n, cn (upd f b 1) n ≤ cn f n + (if b < n then 1 else 0)
  | 0 => by simp [cn]
  | n + 1 => by
    have := cn_upd1 (f := f) (b := b) n
    show cn (upd f b 1) n + _ ≤ cn f n + _ + _
    by_cases q : n = b
    · subst q
      rw [if_neg (Nat.lt_irrefl _)] at this
      rw [upd_at, if_pos rfl, if_pos (show n < n + 1 by omega)]; omega
    · rw [upd_o q]
      by_cases q2 : b < n
      · rw [if_pos q2] at this; rw [if_pos (show b < n + 1 by omega)]; omega
      · rw [if_neg q2] at this; rw [if_neg (show ¬ b < n + 1 by omega)]; omega
/-- an operation in memory has ended: the relation holds again -/
theorem op_end {s t s1 t1 : tj_S} {c o d d1 : Nat} {z ab e e1 lenC len len1 : Nat → Nat} {rfC rf rf1 : Nat → Nat → Nat} (hR : rPR s t c o d z ab e lenC len rfC rf) (hup : t 0 12 = 1) (hs : sMm s s1) (ht : tMm t t1) (hw : ∀ i, i < 92 → s1 11 i = t1 2 i) (m3 : mk (s1 10 3) (t1 3)) (m4 : mk (s1 10 4) (t1 4)) (hD : rDir s1 t1 d1 e1) (hfs : fsR (t1 2) len1 rf1) (hdd : ∀ j, j < d1 → ∃ g, g < 6 ∧ ∃ k, k < 6 ∧ rf1 g k = e1 j)
    (h4 : ∀ g k, g < 6 → k < 6 → rf1 g k ≠ 0 → (∃ g1, g1 < 6 ∧ ∃ k1, k1 < 6 ∧ rf g1 k1 = rf1 g k) ∨ bt (t 0 16) (rf1 g k - 7) = false)
    (h5 : ∀ b, (b < 7 ∨ (b ≠ 0 ∧ ∃ f, f < 6 ∧ rf1 f 6 = b)) → t1 3 b ≠ 1 → (b < 7 ∨ (b ≠ 0 ∧ ∃ f, f < 6 ∧ rf f 6 = b)) ∧ t 3 b ≠ 1 ∧ t1 4 b = t 4 b ∧ ∀ w, w < 4 → t1 2 (4 * b + w) = t 2 (4 * b + w))
    (h6 : ∀ b, b < 7 → t1 4 b ≠ 1) (h7 : (∃ b, b < 23 ∧ t1 4 b = 1) → t1 3 6 = 1) (h8 : szf (cn (t1 3) 23) (cn (t1 4) 23) ≤ 24) : rPR s1 t1 c o d1 z ab e1 lenC len1 rfC rf1 := by
  obtain ⟨⟨a1, a2, a3, a4, a5, a6, a7⟩, hU⟩ := hR
  obtain ⟨r1, r2, r3, r4, r5, r6, r7, r8⟩ := hU hup
  have T : ∀ a, a ≠ 0 → a ≠ 2 → a ≠ 3 → a ≠ 4 → a ≠ 5 → t1 a = t a := ht.1
  have er := rcv_m ht
  refine ⟨⟨?_, ?_, ⟨fun i hi => ?_, hw⟩, ⟨m3, m4, ?_⟩, hD, ?_, ?_⟩, fun _ => ⟨hfs, ?_, hdd, fun f g i hf hg hi hne q => ?_, fun b hb hj => ?_, h6, h7, h8⟩⟩
  · unfold rPow at *; rw [hs.1 1 (by omega) (by omega) (by omega), ht.2 12 (by omega), ht.2 14 (by omega), ht.2 15 (by omega)]; exact a1
  · unfold rMode at *; rw [hs.1 0 (by omega) (by omega) (by omega), ht.2 13 (by omega)]; exact a2
  · rw [hs.1 3 (by omega) (by omega) (by omega), T 1 (by omega) (by omega) (by omega) (by omega) (by omega)]; exact a3.1 i hi
  · rw [hs.2, ht.2 16 (by omega)]; exact a4.2.2
  · unfold rLog at *
    rw [hs.1 4 (by omega) (by omega) (by omega), ht.2 10 (by omega), ht.2 11 (by omega)]
    obtain ⟨q1, q2, q3, q4, q5, q6, q7, q8, q9⟩ := a6
    exact ⟨q1, q2, q3, q4, q5, q6, q7, q8, fun k hk => rTx_congr (hs.1 5 (by omega) (by omega) (by omega)) (hs.1 6 (by omega) (by omega) (by omega)) (hs.1 7 (by omega) (by omega) (by omega)) (hs.1 8 (by omega) (by omega) (by omega)) (hs.1 9 (by omega) (by omega) (by omega)) (T 6 (by omega) (by omega) (by omega) (by omega) (by omega)) (T 7 (by omega) (by omega) (by omega) (by omega) (by omega)) (T 8 (by omega) (by omega) (by omega) (by omega) (by omega)) (T 9 (by omega) (by omega) (by omega) (by omega) (by omega)) (q9 k hk)⟩
  · rw [rci_congr (T 1 (by omega) (by omega) (by omega) (by omega) (by omega)) (T 6 (by omega) (by omega) (by omega) (by omega) (by omega)) (T 7 (by omega) (by omega) (by omega) (by omega) (by omega)) (T 8 (by omega) (by omega) (by omega) (by omega) (by omega))]; exact a7
  · rw [ht.2 16 (by omega), r2]; exact (er 6 0 c).symm
  · rcases h4 g i hg hi (by rw [q]; exact hne) with ⟨g1, hg1, k1, hk1, e2⟩ | e2
    · exact r4 f g1 k1 hf hg1 hk1 hne (by rw [e2, q])
    · have h23 := fsF_lt (a7.1 f hf) 6 (by omega)
      have h7' := ((fsR_G a7 f hf).2.2.2.1 6 (by omega)).2 hne
      have := (a7.2.2 (rfC f 6 - 7) (by omega)).mpr ⟨by omega, f, hf, 6, by omega, by omega⟩
      rw [q, r2, this] at e2
      exact absurd e2 (by decide)
  · obtain ⟨p1, p2, p3, p4⟩ := h5 b hb hj
    obtain ⟨v1, v2⟩ := r5 b p1 p2
    exact ⟨by rw [p3]; exact v1, fun w hw => by rw [p4 w hw, er b w c]; exact v2 w hw⟩
