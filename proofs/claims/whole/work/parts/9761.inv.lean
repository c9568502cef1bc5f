theorem TrOK_of {M N : xM} (h : TrOK (M 6) (M 7) (M 5) (M 105) (M 106) (M 107)) (e : ∀ x, (5 ≤ x ∧ x < 8) ∨ (105 ≤ x ∧ x < 108) → N x = M x) : TrOK (N 6) (N 7) (N 5) (N 105) (N 106) (N 107) := by
  rw [e 5 (by decide), e 6 (by decide), e 7 (by decide), e 105 (by decide), e 106 (by decide), e 107 (by decide)]
  exact h
theorem TpOK_of {M N : xM} (h : TpOK M) (e2 : N 2 = M 2) (e3 : N 3 = M 3) (e8 : N 108 = M 108) (e4 : ∀ k, k = 6 ∨ k = 13 ∨ k = 14 → N 104 k = M 104 k) : TpOK N := by
  unfold TpOK
  rw [e2, e3, e8, e4 6 (by decide), e4 13 (by decide), e4 14 (by decide)]
  exact h
theorem PlOK_of {p : Nat} {M N : xM} (q : PlOK p M) (a : ∀ k, k < 12 → N (p + k) = M (p + k)) (h3 : ∀ x, 121 ≤ x → x < 129 → N x = M x) (h4 : ∀ k, k = 30 ∨ k = 31 → N 104 k = M 104 k) : PlOK p N := by
  have a0 : N p = M p := a 0 (by decide)
  have a3 := a 3 (by decide)
  have a4 := a 4 (by decide)
  have a5 := a 5 (by decide)
  have a6 := a 6 (by decide)
  have a8 := a 8 (by decide)
  have a9 := a 9 (by decide)
  have a10 := a 10 (by decide)
  have a11 := a 11 (by decide)
  unfold PlOK ClOK
  simp only [a0, a3, a4, a5, a6, a8, a9, a10, a11, h4 30 (by decide), h4 31 (by decide), h3 121 (by decide) (by decide), h3 122 (by decide) (by decide), h3 123 (by decide) (by decide), h3 124 (by decide) (by decide), h3 125 (by decide) (by decide), h3 126 (by decide) (by decide), h3 127 (by decide) (by decide), h3 128 (by decide) (by decide)]
  exact q
theorem RowOK_of {M N : xM} (q : RowOK M) (h2 : N 48 0 = M 48 0) (h1 : ∀ x, 49 ≤ x → x < 52 → N x = M x) (h3 : ∀ x, 144 ≤ x → x < 149 → N x = M x) : RowOK N := by
  unfold RowOK
  rw [h2, h3 144 (by decide) (by decide), h3 145 (by decide) (by decide), h3 146 (by decide) (by decide), h3 147 (by decide) (by decide), h3 148 (by decide) (by decide), h1 49 (by decide) (by decide), h1 50 (by decide) (by decide), h1 51 (by decide) (by decide)]
  exact q
theorem EvOK_of {p : Nat} {M N : xM} (q : EvOK p M) (a : ∀ k, k < 12 → N (p + k) = M (p + k)) (h2 : N 48 4 = M 48 4) (h1 : ∀ x, 52 ≤ x → x < 57 → N x = M x) (h3 : ∀ x, 149 ≤ x → x < 154 → N x = M x) : EvOK p N := by
  have a0 : N p = M p := a 0 (by decide)
  have a3 := a 3 (by decide)
  unfold EvOK
  rw [h2, h3 149 (by decide) (by decide), h3 150 (by decide) (by decide), h3 151 (by decide) (by decide), h3 152 (by decide) (by decide), h3 153 (by decide) (by decide), h1 52 (by decide) (by decide), h1 53 (by decide) (by decide), h1 54 (by decide) (by decide), h1 55 (by decide) (by decide), h1 56 (by decide) (by decide), a0, a3]
  exact q
theorem BcOK_of {M N : xM} (q : BcOK M) (h2 : ∀ k, k = 0 ∨ k = 4 ∨ k = 10 ∨ k = 11 → N 48 k = M 48 k) (h4 : ∀ k, 59 ≤ k → k < 63 → N 104 k = M 104 k) : BcOK N := by
  unfold BcOK
  rw [h2 0 (by decide), h2 4 (by decide), h2 10 (by decide), h2 11 (by decide), h4 59 (by decide) (by decide), h4 60 (by decide) (by decide), h4 61 (by decide) (by decide), h4 62 (by decide) (by decide)]
  exact q
theorem WB_of {p : Nat} {M N : xM} (q : WB p M) (a : ∀ k, k < 12 → N (p + k) = M (p + k)) (h1 : ∀ x, 49 ≤ x → x < 58 → N x = M x) (h2 : ∀ k, k ≠ 13 → N 48 k = M 48 k) (h3 : ∀ x, (121 ≤ x ∧ x < 129) ∨ (144 ≤ x ∧ x < 155) → N x = M x) (h4 : ∀ k, (k = 30 ∨ k = 31) ∨ (59 ≤ k ∧ k < 63) → N 104 k = M 104 k) : WB p N := by
  obtain ⟨q1, q2, q3, q4, q5⟩ := q
  refine ⟨PlOK_of q1 a (fun x g1 g2 => h3 x (by omega)) (fun k g => h4 k (by omega)), BcOK_of q2 (fun k g => h2 k (by omega)) (fun k g1 g2 => h4 k (by omega)), RowOK_of q3 (h2 0 (by decide)) (fun x g1 g2 => h1 x (by omega) (by omega)) (fun x g1 g2 => h3 x (by omega)), EvOK_of q4 a (h2 4 (by decide)) (fun x g1 g2 => h1 x (by omega) (by omega)) (fun x g1 g2 => h3 x (by omega)), ?_⟩
  rw [h3 154 (by decide), h1 57 (by decide) (by decide)]
  exact q5
theorem FlI_of {p : Nat} {M N : xM} (q : FlI p M) (a : ∀ k, k < 12 → N (p + k) = M (p + k)) (h : ∀ x, 48 ≤ x → x < 74 → N x = M x) : FlI p N := by
  obtain ⟨q1, q2, q3⟩ := q
  have e : ∀ k, k < 12 → N (62 + k) = M (62 + k) := fun k hk => h _ (by omega) (by omega)
  have e0 : N 62 = M 62 := e 0 (by decide)
  refine ⟨by rw [e0]; exact q1, by rw [e0]; exact q2, fun z => ?_⟩
  have ep : N p = M p := a 0 (by decide)
  obtain ⟨g1, g2⟩ := q3 (by rw [← h 48 (by decide) (by decide)]; exact z)
  have ew : w0 p N = w0 p M := w0_cg a (fun x _ _ => h x (by omega) (by omega)) (fun k _ => by rw [h 48 (by decide) (by decide)])
  refine ⟨g1.of (fun x _ _ => h x (by omega) (by omega)) (fun k _ => by rw [h 48 (by decide) (by decide)]), ?_⟩
  rw [ew, e0, ep]
  refine ⟨⟨fun i hi => by rw [e 1 (by decide)]; exact g2.1.1 i hi, fun i hi => by rw [e 5 (by decide), e 6 (by decide), e 7 (by decide)]; exact g2.1.2 i hi⟩, fun k hk => ?_⟩
  obtain ⟨⟨b1, b2⟩, b3, b4⟩ := g2.2 k hk
  exact ⟨⟨fun i hi => by rw [e 1 (by decide)]; exact b1 i hi, fun i hi => by rw [e 2 (by decide)]; exact b2 i hi⟩, fun i hi => by rw [e 5 (by decide), e 6 (by decide), e 7 (by decide)]; exact b3 i hi, fun i hi => by rw [e 3 (by decide), e 4 (by decide)]; exact b4 i hi⟩
theorem FlI_set {p p' : Nat} {M N : xM} (q : FlI p M) (h : N 62 = M 62) (h1 : N 48 13 = 1) : FlI p' N := by
  obtain ⟨q1, q2, -⟩ := q
  refine ⟨by rw [h]; exact q1, by rw [h]; exact q2, fun z => ?_⟩
  rw [h1] at z
  exact absurd z (by decide)
theorem SC_of {M N : xM} (q : SC M) (h : ∀ k, k = 74 ∨ k = 77 ∨ k = 78 → N 104 k = M 104 k) : SC N := by
  unfold SC
  rw [h 74 (by decide), h 77 (by decide), h 78 (by decide)]
  exact q
theorem LwOK_of {q : Nat} {M N : xM} (h : LwOK q M) (h0 : ∀ j, j < 7 → N (q + j) = M (q + j)) (h1 : N 104 40 = M 104 40) (h2 : ∀ x, (130 ≤ x ∧ x < 134) ∨ x = 138 ∨ x = 139 → N x = M x) : LwOK q N := by
  have e0 : N q = M q := h0 0 (by decide)
  unfold LwOK
  rw [e0, h0 2 (by decide), h0 3 (by decide), h0 4 (by decide), h0 5 (by decide), h0 6 (by decide), h1, h2 130 (by decide), h2 131 (by decide), h2 132 (by decide), h2 133 (by decide), h2 138 (by decide), h2 139 (by decide)]
  exact h
theorem TnOK_of {M N : xM} (q : TnOK M) (h : ∀ k, 6 ≤ k → k < 9 → N 78 k = M 78 k) (h1 : ∀ k, 90 ≤ k → k < 94 → N 104 k = M 104 k) : TnOK N := by
  unfold TnOK
  rw [h 6 (by decide) (by decide), h 7 (by decide) (by decide), h 8 (by decide) (by decide), h1 90 (by decide) (by decide), h1 91 (by decide) (by decide), h1 92 (by decide) (by decide), h1 93 (by decide) (by decide)]
  exact q
theorem RwOK_of {M N : xM} (q : RwOK M) (h : N 93 6 = M 93 6) (h1 : N 104 99 = M 104 99) (h2 : N 99 = M 99) (h3 : N 169 = M 169) : RwOK N := by
  unfold RwOK
  rw [h, h1, h2, h3]
  exact q
theorem GgOK_of {M N : xM} (q : GgOK M) (h : N 93 11 = M 93 11) (h1 : ∀ k, 104 ≤ k → k < 107 → N 104 k = M 104 k) (h2 : N 102 = M 102) (h3 : N 103 = M 103) (h4 : N 172 = M 172) (h5 : N 173 = M 173) : GgOK N := by
  unfold GgOK
  rw [h, h1 106 (by decide) (by decide), h2, h3]
  refine q.imp id ?_
  rintro ⟨g1, g2, g3, g4⟩
  exact ⟨g1, g2.of (h1 104 (by decide) (by decide)) (h1 105 (by decide) (by decide)) h4 h5, g3.of (h1 104 (by decide) (by decide)) (h1 105 (by decide) (by decide)) h4 h5 h2 h3, g4⟩
/-- what stands between two calls -/
def IvM (pn ln : Nat) (M : xM) : Prop := M 104 0 = M 1 0 ∧ TrOK (M 6) (M 7) (M 5) (M 105) (M 106) (M 107) ∧ TpOK M ∧ WB pn M ∧ FlI pn M ∧ SC M ∧ LwOK ln M ∧ TnOK M ∧ M 104 94 = M 78 11 ∧ RwOK M ∧ GgOK M
def IvR (R : xR) (M : xM) : Prop := ∃ pn ps ln ls, RG R pn ps ln ls ∧ IvM pn ln M
/-- the parts that no new ticket reaches -/
theorem IvM.low {pn ln : Nat} {M N : xM} (h : IvM pn ln M) (hl : 32 ≤ ln ∧ ln ≤ 40) (e0 : N 104 0 = N 1 0) (e1 : TrOK (N 6) (N 7) (N 5) (N 105) (N 106) (N 107)) (e2 : TpOK N) {pm : Nat} (e3 : WB pm N) (e4 : FlI pm N) (e : ∀ x, (32 ≤ x ∧ x < 47 ∧ x ≠ 39) ∨ x = 78 ∨ x = 93 ∨ x = 99 ∨ x = 102 ∨ x = 103 ∨ (130 ≤ x ∧ x < 134) ∨ x = 138 ∨ x = 139 ∨ x = 169 ∨ x = 172 ∨ x = 173 → N x = M x) (hl2 : ln = 32 ∨ ln = 40) (f : ∀ k, k = 40 ∨ 74 ≤ k → N 104 k = M 104 k) : IvM pm ln N := by
  obtain ⟨-, -, -, -, -, h5, h6, h7, h8, h9, h10⟩ := h
  refine ⟨e0, e1, e2, e3, e4, SC_of h5 (fun k g => f k (by omega)), LwOK_of h6 (fun j g => e _ (by omega)) (f 40 (by decide)) (fun x g => e x (by omega)), TnOK_of h7 (fun k _ _ => by rw [e 78 (by decide)]) (fun k g1 g2 => f k (by omega)), by rw [f 94 (by decide), e 78 (by decide)]; exact h8, RwOK_of h9 (by rw [e 93 (by decide)]) (f 99 (by decide)) (e 99 (by decide)) (e 169 (by decide)), GgOK_of h10 (by rw [e 93 (by decide)]) (fun k g1 g2 => f k (by omega)) (e 102 (by decide)) (e 103 (by decide)) (e 172 (by decide)) (e 173 (by decide))⟩
