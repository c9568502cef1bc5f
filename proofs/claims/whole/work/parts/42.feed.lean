theorem xu_xu {α : Type} (f : Nat → Nat → α) (c i : Nat) (u v : α) : xu (xu f c i u) c i v = xu f c i v := by
  funext x y
  unfold xu
  by_cases h : x = c ∧ y = i <;> simp [h]
theorem append_eq {R : xR} {pn ps ln ls : Nat} (hR : RG R pn ps ln ls) {M : xM} {n : Nat} (hn : M 2 1 = n) (h : n + 4 ≤ 600) (x : Int) : f_A_append R 2 x M = some (xu (four M 3 n x) 2 1 ((n : Int) + 4)) := by
  have r0 := hR.2.2.1
  have e : ∀ (f : xM) (j : Nat) (u : Int), xu f 3 j u 2 1 = f 2 1 := fun f j u => xu_oth f u (by decide)
  have co : ∀ (f : xM) (j : Nat) (u v : Int), xu (xu f 2 1 v) 3 j u = xu (xu f 3 j u) 2 1 v := fun f j u v => xu_comm f 1 j v u (by decide)
  unfold f_A_append
  rw [show xfu = 999995 + 1 + 1 + 1 + 1 + 1 from rfl]
  rw [A_append_F3, if_neg (by decide), hn, if_pos (by omega), xch_pos (by omega), xl_eq, xl_eq, xl_eq, r0, e, hn, w32_of (x := (n : Int) + 1) (by omega) (by omega), show w32 (24 + -8) = 16 from by decide, w8_w8]
  rw [A_append_F3, if_neg (by decide), xu_at, if_pos rfl, if_pos (by omega), xch_pos (by omega), xl_eq, xl_eq, xl_eq, r0, e, xu_at, if_pos rfl, w32_of (x := (n : Int) + 1 + 1) (by omega) (by omega), show w32 (16 + -8) = 8 from by decide, w8_w8]
  rw [co, xu_xu, A_append_F3, if_neg (by decide), xu_at, if_pos rfl, if_pos (by omega), xch_pos (by omega), xl_eq, xl_eq, xl_eq, r0, e, xu_at, if_pos rfl, w32_of (x := (n : Int) + 1 + 1 + 1) (by omega) (by omega), show w32 (8 + -8) = 0 from by decide, w8_w8]
  rw [co, xu_xu, A_append_F3, if_neg (by decide), xu_at, if_pos rfl, if_pos (by omega), xch_pos (by omega), xl_eq, xl_eq, xl_eq, r0, e, xu_at, if_pos rfl, w32_of (x := (n : Int) + 1 + 1 + 1 + 1) (by omega) (by omega), show w32 (0 + -8) = -8 from by decide, w8_w8]
  rw [co, xu_xu, A_append_F3, if_pos (by decide)]
  rw [show ((n : Int)).toNat = n by omega, show ((n : Int) + 1).toNat = n + 1 by omega, show ((n : Int) + 1 + 1).toNat = n + 2 by omega, show ((n : Int) + 1 + 1 + 1).toNat = n + 3 by omega, four_w, show (n : Int) + 1 + 1 + 1 + 1 = (n : Int) + 4 by omega]
theorem fourM_eq {R : xR} {pn ps ln ls : Nat} (hR : RG R pn ps ln ls) {M : xM} {n : Nat} (hn : M 104 6 = n) (h : n + 4 ≤ 600) (x : Int) : f_M_four R 104 x M = some (xu (four M 108 n x) 104 6 ((n : Int) + 4)) := by
  have r0 : R 104 4 = 108 := by rw [hR.at 104 4 (by decide) (by decide)]; exact xR0_104.2.2.2.1
  have e : ∀ (f : xM) (j : Nat) (u : Int), xu f 108 j u 104 6 = f 104 6 := fun f j u => xu_oth f u (by decide)
  have co : ∀ (f : xM) (j : Nat) (u v : Int), xu (xu f 104 6 v) 108 j u = xu (xu f 108 j u) 104 6 v := fun f j u v => xu_comm f 6 j v u (by decide)
  unfold f_M_four
  rw [show xfu = 999995 + 1 + 1 + 1 + 1 + 1 from rfl]
  rw [M_four_F3, if_neg (by decide), hn, xch_pos (by omega), xl_eq, xl_eq, xl_eq, r0, e, hn, w32_of (x := (n : Int) + 1) (by omega) (by omega), show w32 (24 + -8) = 16 from by decide, w8_w8]
  rw [M_four_F3, if_neg (by decide), xu_at, if_pos rfl, xch_pos (by omega), xl_eq, xl_eq, xl_eq, r0, e, xu_at, if_pos rfl, w32_of (x := (n : Int) + 1 + 1) (by omega) (by omega), show w32 (16 + -8) = 8 from by decide, w8_w8]
  rw [co, xu_xu, M_four_F3, if_neg (by decide), xu_at, if_pos rfl, xch_pos (by omega), xl_eq, xl_eq, xl_eq, r0, e, xu_at, if_pos rfl, w32_of (x := (n : Int) + 1 + 1 + 1) (by omega) (by omega), show w32 (8 + -8) = 0 from by decide, w8_w8]
  rw [co, xu_xu, M_four_F3, if_neg (by decide), xu_at, if_pos rfl, xch_pos (by omega), xl_eq, xl_eq, xl_eq, r0, e, xu_at, if_pos rfl, w32_of (x := (n : Int) + 1 + 1 + 1 + 1) (by omega) (by omega), show w32 (0 + -8) = -8 from by decide, w8_w8]
  rw [co, xu_xu, M_four_F3, if_pos (by decide)]
  rw [show ((n : Int)).toNat = n by omega, show ((n : Int) + 1).toNat = n + 1 by omega, show ((n : Int) + 1 + 1).toNat = n + 2 by omega, show ((n : Int) + 1 + 1 + 1).toNat = n + 3 by omega, four_w, show (n : Int) + 1 + 1 + 1 + 1 = (n : Int) + 4 by omega]
/-- twenty bytes behind place n of a row -/
def twenty (M : xM) (c n : Nat) (a b d e f : Int) : xM := four (four (four (four (four M c n a) c (n + 4) b) c (n + 8) d) c (n + 12) e) c (n + 16) f
theorem four_cell (M : xM) {c x : Nat} (n : Nat) (v : Int) (h : x ≠ c) : four M c n v x = M x := by
  funext y
  exact if_neg (fun q => h q.1)
theorem four_at (M : xM) (c n i : Nat) (v : Int) : four M c n v c i = if n ≤ i ∧ i < n + 4 then w8 (xshr v (24 - 8 * ((i : Int) - n))) else M c i := by
  unfold four
  by_cases h : n ≤ i ∧ i < n + 4 <;> simp [h]
theorem four_comm (M : xM) {c d : Nat} (n i : Nat) (v u : Int) (h : d ≠ c) : four (xu M d i u) c n v = xu (four M c n v) d i u := by
  funext x y
  unfold four xu
  by_cases h1 : x = c
  · subst h1
    have h2 : ¬ x = d := fun q => h q.symm
    simp [h2]
  · simp [h1]
theorem op_feed {R : xR} {M : xM} {pn ps ln ls : Nat} (hR : RG R pn ps ln ls) (hT : TpOK M) (a b c d e : Int) :
    ∃ (r : Int) (M1 M2 : xM), f_X_feed R 1 a b c d e M = some (r, M1) ∧ f_M_feed R 104 a b c d e M1 = some (r, M2) ∧ (M2 = M ∨ (M 2 1 + 20 ≤ 600 ∧ M2 = xu (twenty (xu (twenty M 3 (M 2 1).toNat a b c d e) 2 1 (M 2 1 + 20)) 108 (M 2 1).toNat a b c d e) 104 6 (M 2 1 + 20))) := by
  obtain ⟨t1, -, -, -, -⟩ := hT
  have r1 := hR.2.1.1
  by_cases hv : M 2 1 + 20 ≤ 600
  · obtain ⟨n, hn⟩ : ∃ n : Nat, M 2 1 = n := ⟨(M 2 1).toNat, by omega⟩
    have hX : f_X_feed R 1 a b c d e M = some ((n : Int) + 20, xu (twenty M 3 n a b c d e) 2 1 ((n : Int) + 20)) := by
      unfold f_X_feed f_A_hasRoom
      rw [r1, w32_of (by omega) (by omega), if_neg (by omega), xb1_some, if_neg (by decide)]
      rw [append_eq hR hn (by omega), xb1_some]
      rw [append_eq hR (n := n + 4) (by rw [xu_at, if_pos rfl]; omega) (by omega), xb1_some, four_comm _ _ _ _ _ (by decide), xu_xu]
      rw [append_eq hR (n := n + 8) (by rw [xu_at, if_pos rfl]; omega) (by omega), xb1_some, four_comm _ _ _ _ _ (by decide), xu_xu]
      rw [append_eq hR (n := n + 12) (by rw [xu_at, if_pos rfl]; omega) (by omega), xb1_some, four_comm _ _ _ _ _ (by decide), xu_xu]
      rw [append_eq hR (n := n + 16) (by rw [xu_at, if_pos rfl]; omega) (by omega), xb1_some, four_comm _ _ _ _ _ (by decide), xu_xu, xu_at, if_pos rfl, show ((n + 16 : Nat) : Int) + 4 = (n : Int) + 20 by omega]
      rfl
    obtain ⟨N, hN⟩ : ∃ N, N = xu (twenty M 3 n a b c d e) 2 1 ((n : Int) + 20) := ⟨_, rfl⟩
    rw [← hN] at hX
    have hN6 : N 104 6 = n := by
      rw [hN, xu_cell _ _ _ (by decide)]
      unfold twenty
      rw [four_cell _ _ _ (by decide), four_cell _ _ _ (by decide), four_cell _ _ _ (by decide), four_cell _ _ _ (by decide), four_cell _ _ _ (by decide)]
      omega
    have hM : f_M_feed R 104 a b c d e N = some ((n : Int) + 20, xu (twenty N 108 n a b c d e) 104 6 ((n : Int) + 20)) := by
      unfold f_M_feed
      rw [hN6, w32_of (by omega) (by omega), if_neg (by omega)]
      rw [fourM_eq hR hN6 (by omega), xb1_some]
      rw [fourM_eq hR (n := n + 4) (by rw [xu_at, if_pos rfl]; omega) (by omega), xb1_some, four_comm _ _ _ _ _ (by decide), xu_xu]
      rw [fourM_eq hR (n := n + 8) (by rw [xu_at, if_pos rfl]; omega) (by omega), xb1_some, four_comm _ _ _ _ _ (by decide), xu_xu]
      rw [fourM_eq hR (n := n + 12) (by rw [xu_at, if_pos rfl]; omega) (by omega), xb1_some, four_comm _ _ _ _ _ (by decide), xu_xu]
      rw [fourM_eq hR (n := n + 16) (by rw [xu_at, if_pos rfl]; omega) (by omega), xb1_some, four_comm _ _ _ _ _ (by decide), xu_xu, xu_at, if_pos rfl, show ((n + 16 : Nat) : Int) + 4 = (n : Int) + 20 by omega]
      rfl
    refine ⟨_, N, _, hX, hM, Or.inr ⟨hv, ?_⟩⟩
    rw [hN, hn, show ((n : Int)).toNat = n by omega]
  · refine ⟨-1, M, M, ?_, ?_, Or.inl rfl⟩
    · unfold f_X_feed f_A_hasRoom
      rw [r1, w32_of (by omega) (by omega), if_pos (by omega), xb1_some, if_pos rfl]
    · unfold f_M_feed
      rw [w32_of (by omega) (by omega), if_pos (by omega)]
theorem op_fault {R : xR} {M : xM} {pn ps ln ls : Nat} (hR : RG R pn ps ln ls) (hT : TpOK M) (a : Int) : ∃ r : Int, f_X_fault R 1 a M = some r ∧ f_M_fault 104 a M = some r := by
  obtain ⟨-, -, -, t4, t5⟩ := hT
  unfold f_X_fault f_M_fault
  rw [hR.2.1.1, t4, t5]
  by_cases h : a = 0
  · exact ⟨M 2 12, by rw [if_pos h], by rw [if_pos h]⟩
  · by_cases h1 : a = 1
    · exact ⟨M 2 13, by rw [if_neg h, if_pos h1], by rw [if_neg h, if_pos h1]⟩
    · exact ⟨-1, by rw [if_neg h, if_neg h1], by rw [if_neg h, if_neg h1]⟩
