/-! ===== rowOf ===== -/
def RF (M N : xM) : Prop := (∀ x, x ∉ [1, 93, 94, 95, 96, 97, 98, 99, 104, 166, 167, 168, 169, 170] → N x = M x) ∧ (∀ k, k ≠ 6 → N 93 k = M 93 k) ∧ (∀ k, k ≠ 0 → k ≠ 99 → N 104 k = M 104 k) ∧ (∀ k, k ≠ 0 → N 1 k = M 1 k) ∧ N 104 0 = N 1 0
theorem RF_den {M : xM} (w : Int) : RF M (den w M) := by
  unfold den
  refine ⟨fun x hx => ?_, fun k _ => ?_, fun k h _ => ?_, fun k h => ?_, ?_⟩
  · rw [xu_cell _ _ _ (fun q => hx (by simp [q])), xu_cell _ _ _ (fun q => hx (by simp [q]))]
  · rw [xu_cell _ _ _ (by decide), xu_cell _ _ _ (by decide)]
  · rw [xu_at, if_neg h, xu_cell _ _ _ (by decide)]
  · rw [xu_cell _ _ _ (by decide), xu_at, if_neg h]
  · rw [xu_at, if_pos rfl, xu_cell _ _ _ (by decide), xu_at, if_pos rfl]
theorem cheap_eq {R : xR} {pn ps ln ls : Nat} (hR : RG R pn ps ln ls) {n : Nat} (hn : 1 ≤ n) (hn7 : n ≤ 7) {most : Int} {M : xM} (hC : CpB (M 94) n) (hP : PpB (M 95)) {S : Int × Nat × (Nat → Int)} (hS : S = rall (M 94) (M 95) n most 5 0 (-1, 0, fun _ => 0)) :
    S.2.1 ≤ 4 ∧ ((S.1 = -1 ∧ ∃ M', Fr [96, 97, 98] M M' ∧ f_P_cheapest R 93 (n : Int) most M = some (-1, M')) ∨ (S.1 ≠ -1 ∧ ∃ M', Fr [93, 96, 97, 98, 99] M M' ∧ (∀ k, k ≠ 6 → M' 93 k = M 93 k) ∧ M' 93 6 = (S.2.1 : Int) ∧ (∀ i, i < S.2.1 → M' 99 i = S.2.2 i) ∧ f_P_cheapest R 93 (n : Int) most M = some (S.1, M'))) := by
  have r4 : R 93 4 = 98 := by rw [hR.at 93 4 (by decide) (by decide)]; exact xR0_ro.1.2.2.2.2
  have r5 : R 93 5 = 99 := by rw [hR.at 93 5 (by decide) (by decide)]; exact xR0_rw.1
  obtain ⟨T, hT⟩ : ∃ T, (T = 5 ∧ 4 ≤ n) ∨ (T = n + 1 ∧ n < 4) := by
    by_cases h : 4 ≤ n
    · exact ⟨5, Or.inl ⟨rfl, h⟩⟩
    · exact ⟨n + 1, Or.inr ⟨rfl, by omega⟩⟩
  rw [rall_45 hn hT] at hS
  obtain ⟨M', m1, m2, m3, m4⟩ := cheap_F11 hR hn hn7 hT most (fun (v3_26 : Int) (v4_27 : Int) (M_28 : xM) => P_cheapest_J114 R 93 v3_26 v4_27 M_28) T xfu 0 (-1, 0, fun _ => 0) M (by have : xfu = 1000000 := rfl; omega) (by omega) hC hP (by show 0 ≤ 4; omega) (fun i hi => by have : i < 0 := hi; omega)
  rw [← hS] at m2 m3 m4
  have hf : f_P_cheapest R 93 (n : Int) most M = P_cheapest_J114 R 93 S.1 (S.2.1 : Int) M' := m4
  refine ⟨m3, ?_⟩
  rw [hf]
  unfold P_cheapest_J114
  by_cases h : S.1 = -1
  · refine Or.inl ⟨h, M', m1, ?_⟩
    rw [if_pos h, h]
  · refine Or.inr ⟨h, xcpy (xu M' 93 6 (S.2.1 : Int)) 98 99 0 0 S.2.1, ?_, ?_, ?_, ?_, ?_⟩
    · intro c hc
      simp only [List.mem_cons, List.not_mem_nil, or_false, not_or] at hc
      rw [xcpy_cell _ _ _ _ hc.2.2.2.2, xu_cell _ _ _ hc.1]
      exact m1 c (by simp only [List.mem_cons, List.not_mem_nil, or_false, not_or]; exact ⟨hc.2.1, hc.2.2.1, hc.2.2.2.1⟩)
    · intro k hk
      rw [xcpy_cell _ _ _ _ (by decide), xu_at, if_neg hk, m1 93 (by decide)]
    · rw [xcpy_cell _ _ _ _ (by decide), xu_at, if_pos rfl]
    · intro i hi
      rw [xcpy_at, if_pos ⟨by omega, by omega⟩, xu_cell _ _ _ (by decide), show 0 + (i - 0) = i by omega]
      exact m2 i hi
    · rw [if_neg h, xl_eq, xch_pos (by omega), xl_eq, r4, r5, Int.toNat_natCast]
      rfl
theorem rowOf_inM {R : xR} {pn ps ln ls : Nat} (hR : RG R pn ps ln ls) {n t u : Nat} (ht : t < 4) (hu : u < 4) (hn : 1 ≤ n) (hn7 : n ≤ 7) {most : Int} {M : xM} (hC : ∀ i, i < 5 * n → 0 ≤ M 107 (60 * t + i) ∧ M 107 (60 * t + i) ≤ bdC i) (hP : ∀ i, i < 4 → 0 ≤ M 107 (60 * u + i) ∧ M 107 (60 * u + i) ≤ 9999)
    {S : Int × Nat × (Nat → Int)} (hS : S = rall (fun i => M 107 (60 * t + i)) (fun i => M 107 (60 * u + i)) n most 5 0 (-1, 0, fun _ => 0)) (A : xM → Option (Int × xM)) (hA : A = fun (M_79 : xM) =>
                                      M_rowOf_F284 R 104 (n : Int) most
                                        (fun (v5_140 : Int) (v6_141 : Int) (M_142 : xM) =>
                                          if v5_140 = -1 then
                                            xb2 (f_M_refuse 104 6 M_142) fun r_144 M_145 =>
                                            some (r_144, M_145)
                                          else
                                            M_rowOf_F517 R 104
                                              (fun (v5_151 : Int) (v6_152 : Int) (M_153 : xM) =>
                                                xl (xu M_153 104 99 v6_152) fun M_154 =>
                                                xb2 (f_M_gives 104 v5_151 M_154) fun r_155 M_156 =>
                                                some (r_155, M_156))
                                              xfu v5_140 v6_141 0 M_142)
                                        xfu (-1) 0 1 0 M_79) :
    ∃ N, Fr [104, 166, 167, 168, 169, 170] M N ∧ M_rowOf_F203 R 104 (t : Int) (n : Int) (u : Int) most (fun (M_73 : xM) => M_rowOf_F240 R 104 (n : Int) (u : Int) most A xfu 0 M_73) xfu 0 M = some (S.1, N) ∧ (∀ k, k ≠ 0 → k ≠ 99 → N 104 k = M 104 k) ∧ ((S.1 = -1 ∧ N 104 0 = 6 ∧ N 104 99 = M 104 99 ∧ N 169 = M 169) ∨ (S.1 ≠ -1 ∧ N 104 0 = 0 ∧ N 104 99 = (S.2.1 : Int) ∧ ∀ i, i < S.2.1 → N 169 i = S.2.2 i)) := by
  have r98 : R 104 98 = 169 := by rw [hR.at 104 98 (by decide) (by decide)]; exact xR0_rw.2
  have hb : ∀ i, bdC i ≤ 1000 := fun i => by unfold bdC; split <;> omega
  have h1 := rowOf_F203 hR ht hn7 (u : Int) most (fun (M_73 : xM) => M_rowOf_F240 R 104 (n : Int) (u : Int) most A xfu 0 M_73) (5 * n) xfu 0 M (by have : xfu = 1000000 := rfl; omega) (by omega) (fun i hi => by have := hC i hi; have := hb i; omega)
  obtain ⟨M3, hM3⟩ : ∃ M3, M3 = xrow M 166 (fun i => if 0 ≤ i ∧ i < 5 * n then M 107 (60 * t + i) else M 166 i) := ⟨_, rfl⟩
  rw [← hM3] at h1
  have o3 : ∀ x, x ≠ 166 → M3 x = M x := fun x hx => by rw [hM3, xrow_cell _ _ hx]
  have h2 := rowOf_F240 hR hu (n : Int) most A 4 xfu 0 M3 (by have : xfu = 1000000 := rfl; omega) (by omega) (fun i hi => by rw [o3 107 (by decide)]; exact hP i hi)
  obtain ⟨M4, hM4⟩ : ∃ M4, M4 = xrow M3 167 (fun i => if 0 ≤ i ∧ i < 4 then M3 107 (60 * u + i) else M3 167 i) := ⟨_, rfl⟩
  rw [← hM4] at h2
  have o4 : ∀ x, x ≠ 166 → x ≠ 167 → M4 x = M x := fun x hx hy => by rw [hM4, xrow_cell _ _ hy, o3 x hx]
  have a6 : ∀ i, i < 5 * n → M4 166 i = M 107 (60 * t + i) := fun i hi => by rw [hM4, xrow_cell _ _ (by decide), hM3, xrow_at, if_pos ⟨by omega, hi⟩]
  have a7 : ∀ i, i < 4 → M4 167 i = M 107 (60 * u + i) := fun i hi => by rw [hM4, xrow_at, if_pos ⟨by omega, hi⟩, o3 107 (by decide)]
  have hS' : S = rall (M4 166) (M4 167) n most 5 0 (-1, 0, fun _ => 0) := by
    rw [hS]
    exact rall_cg hn (fun d hd j hj => (a6 (5 * d + j) (by omega)).symm) (fun j hj => (a7 j hj).symm) 5 0 _
  have hCp : CpB (M4 166) n := by
    intro d hd
    refine ⟨fun j hj => ?_, ?_⟩
    · have := hC (5 * d + j) (by omega)
      rw [a6 _ (by omega)]
      unfold bdC at this
      rw [if_neg (by omega)] at this
      exact this
    · have := hC (5 * d + 4) (by omega)
      rw [a6 _ (by omega)]
      unfold bdC at this
      rw [if_pos (by omega)] at this
      exact this
  have hPp : PpB (M4 167) := fun j hj => by rw [a7 j hj]; exact hP j hj
  obtain ⟨M5, m1, m2, m3, m4⟩ := rowOf_F284 hR hn hn7 most (fun (v5_140 : Int) (v6_141 : Int) (M_142 : xM) =>
                                          if v5_140 = -1 then
                                            xb2 (f_M_refuse 104 6 M_142) fun r_144 M_145 =>
                                            some (r_144, M_145)
                                          else
                                            M_rowOf_F517 R 104
                                              (fun (v5_151 : Int) (v6_152 : Int) (M_153 : xM) =>
                                                xl (xu M_153 104 99 v6_152) fun M_154 =>
                                                xb2 (f_M_gives 104 v5_151 M_154) fun r_155 M_156 =>
                                                some (r_155, M_156))
                                              xfu v5_140 v6_141 0 M_142) 5 xfu 0 (-1, 0, fun _ => 0) M4 (by have : xfu = 1000000 := rfl; omega) (by omega) hCp hPp (by show 0 ≤ 4; omega) (fun i hi => by have : i < 0 := hi; omega)
  rw [← hS'] at m2 m3 m4
  have hall : M_rowOf_F203 R 104 (t : Int) (n : Int) (u : Int) most (fun (M_73 : xM) => M_rowOf_F240 R 104 (n : Int) (u : Int) most A xfu 0 M_73) xfu 0 M = (if S.1 = -1 then some (-1, xu M5 104 0 6) else M_rowOf_F517 R 104
                                              (fun (v5_151 : Int) (v6_152 : Int) (M_153 : xM) =>
                                                xl (xu M_153 104 99 v6_152) fun M_154 =>
                                                xb2 (f_M_gives 104 v5_151 M_154) fun r_155 M_156 =>
                                                some (r_155, M_156))
                                              xfu S.1 (S.2.1 : Int) 0 M5) := by
    refine h1.trans (h2.trans ?_)
    rw [hA]
    exact m4
  have fr5 : ∀ c, c ∉ [104, 166, 167, 168, 169, 170] → M5 c = M c := by
    intro c hc
    simp only [List.mem_cons, List.not_mem_nil, or_false, not_or] at hc
    rw [m1 c (by simp only [List.mem_cons, List.not_mem_nil, or_false, not_or]; exact ⟨hc.2.2.2.1, hc.2.2.2.2.2⟩), o4 c hc.2.1 hc.2.2.1]
  have f4 : M5 104 = M 104 := by rw [m1 104 (by decide), o4 104 (by decide) (by decide)]
  have f9 : M5 169 = M 169 := by rw [m1 169 (by decide), o4 169 (by decide) (by decide)]
  rw [hall]
  by_cases h : S.1 = -1
  · rw [if_pos h, h]
    refine ⟨xu M5 104 0 6, ?_, rfl, ?_, Or.inl ⟨rfl, ?_, ?_, ?_⟩⟩
    · intro c hc
      rw [xu_cell _ _ _ (fun q => hc (by simp [q])), fr5 c hc]
    · intro k k0 _
      rw [xu_at, if_neg k0, f4]
    · rw [xu_at, if_pos rfl]
    · rw [xu_at, if_neg (by decide), f4]
    · rw [xu_cell _ _ _ (by decide), f9]
  · rw [if_neg h]
    have h5 := rowOf_F517 hR m3 r98 (fun (v5_151 : Int) (v6_152 : Int) (M_153 : xM) =>
                                                xl (xu M_153 104 99 v6_152) fun M_154 =>
                                                xb2 (f_M_gives 104 v5_151 M_154) fun r_155 M_156 =>
                                                some (r_155, M_156)) S.1 S.2.1 xfu 0 M5 (by have : xfu = 1000000 := rfl; omega) (by omega)
    rw [show ((0 : Nat) : Int) = 0 from rfl] at h5
    rw [h5, xl_eq, gives_eq, xb2_some]
    obtain ⟨M6, hM6⟩ : ∃ M6, M6 = xrow M5 169 (fun i => if 0 ≤ i ∧ i < S.2.1 then M5 170 i else M5 169 i) := ⟨_, rfl⟩
    rw [← hM6]
    have o6 : ∀ x, x ≠ 169 → M6 x = M5 x := fun x hx => by rw [hM6, xrow_cell _ _ hx]
    refine ⟨xu (xu M6 104 99 (S.2.1 : Int)) 104 0 0, ?_, rfl, ?_, Or.inr ⟨h, ?_, ?_, ?_⟩⟩
    · intro c hc
      rw [xu_cell _ _ _ (fun q => hc (by simp [q])), xu_cell _ _ _ (fun q => hc (by simp [q])), o6 c (fun q => hc (by simp [q])), fr5 c hc]
    · intro k k0 k9
      rw [xu_at, if_neg k0, xu_at, if_neg k9, o6 104 (by decide), f4]
    · rw [xu_at, if_pos rfl]
    · rw [xu_at, if_neg (by decide), xu_at, if_pos rfl]
    · intro i hi
      rw [xu_cell _ _ _ (by decide), xu_cell _ _ _ (by decide), hM6, xrow_at, if_pos ⟨by omega, hi⟩, m2 i hi]
