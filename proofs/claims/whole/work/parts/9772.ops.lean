theorem IvR.fru {R : xR} {M N : xM} {pn ps ln ls : Nat} (hR : RG R pn ps ln ls) (h : IvM pn ln M) (F : FrU M N) (g : FlI pn N) : IvR R N := ⟨pn, ps, ln, ls, hR, h.fru (by have := hR.2.2.2.1; omega) (by have := hR.2.2.2.2; omega) F g⟩
theorem IvR.den {R : xR} {M : xM} {pn ps ln ls : Nat} (hR : RG R pn ps ln ls) (h : IvM pn ln M) (w : Int) : IvR R (den w M) := ⟨pn, ps, ln, ls, hR, h.den (by have := hR.2.2.2.1; omega) (by have := hR.2.2.2.2; omega) w⟩
theorem RG.p {R : xR} {pn ps ln ls : Nat} (hR : RG R pn ps ln ls) : pn = 8 ∨ pn = 20 := by have := hR.2.2.2.1; omega
theorem RG.l {R : xR} {pn ps ln ls : Nat} (hR : RG R pn ps ln ls) : ln = 32 ∨ ln = 40 := by have := hR.2.2.2.2; omega
theorem ops : Ops IvR := by
  refine ⟨?_, ?_, ?_, ?_, ?_, ?_, ?_, ?_, ?_, ?_, ?_, ?_, ?_, ?_, ?_, ?_, ?_, ?_, ?_, ?_, ?_, ?_, ?_, ?_, ?_, ?_, ?_, ?_, ?_, ?_, ?_⟩
  · intro R M hI
    obtain ⟨pn, ps, ln, ls, hR, h⟩ := hI
    exact ⟨M 1 0, rfl, congrArg some h.1, pn, ps, ln, ls, hR, h⟩
  · intro R M a b c hI _ _ _
    obtain ⟨pn, ps, ln, ls, hR, h⟩ := hI
    obtain ⟨r, M1, M2, x1, x2, x3⟩ := op_tray (M := M) hR a b c
    refine ⟨r, M1, M2, x1, x2, ?_⟩
    rcases x3 with rfl | ⟨⟨y1, y2, y3⟩, rfl⟩
    · exact IvR.den hR h _
    · exact IvR.den hR (h.tray hR.p hR.l y1 y2 y3) _
  · intro R M a b v hI _ _
    obtain ⟨pn, ps, ln, ls, hR, h⟩ := hI
    obtain ⟨r, M1, M2, x1, x2, x3⟩ := op_write hR h.2.1 a b v
    refine ⟨r, M1, M2, x1, x2, ?_⟩
    rcases x3 with ⟨w, rfl⟩ | ⟨-, -, x, rfl⟩
    · exact IvR.den hR h _
    · exact IvR.den hR (h.write hR.p hR.l _ _) _
  · intro R M a b hI _ _
    obtain ⟨pn, ps, ln, ls, hR, h⟩ := hI
    obtain ⟨r, M1, M2, x1, x2, w, rfl⟩ := op_read hR h.2.1 a b
    exact ⟨r, M1, _, x1, x2, IvR.den hR h _⟩
  · intro R M a p b q n hI _ hp _ hq hn
    obtain ⟨pn, ps, ln, ls, hR, h⟩ := hI
    obtain ⟨r, M1, M2, x1, x2, x3⟩ := op_pour hR h.2.1 (a := a) (b := b) hp hq hn
    refine ⟨r, M1, M2, x1, x2, ?_⟩
    rcases x3 with ⟨w, rfl⟩ | ⟨⟨y1, y2, y3, y4, y5, y6, y7, y8, y9⟩, rfl⟩
    · exact IvR.den hR h _
    · exact IvR.den hR (h.pour hR.p hR.l y1 y2 ⟨y3, y4, y5⟩ y6 y8 y9) _
  · intro R M a b c d e hI _ _ _ _ _
    obtain ⟨pn, ps, ln, ls, hR, h⟩ := hI
    obtain ⟨r, M1, M2, x1, x2, x3⟩ := op_feed hR h.2.2.1 a b c d e
    refine ⟨r, M1, M2, x1, x2, ?_⟩
    rcases x3 with rfl | ⟨y, rfl⟩
    · exact ⟨pn, ps, ln, ls, hR, h⟩
    · exact ⟨pn, ps, ln, ls, hR, h.feed hR.p hR.l y⟩
  · intro R M a hI _
    obtain ⟨pn, ps, ln, ls, hR, h⟩ := hI
    obtain ⟨r, R1, M1, M2, x1, x2, x3⟩ := op_plant hR h.2.2.1 a
    refine ⟨r, R1, M1, M2, x1, x2, ?_⟩
    rcases x3 with ⟨y, w, rfl⟩ | ⟨y, z1, z2⟩ | ⟨y, z1, z2, z3⟩
    · exact IvR.den y h _
    · exact ⟨pn, ps, ln, ls, y, h.pf hR.2.2.2.1 hR.l z2 z1⟩
    · exact ⟨ps, pn, ln, ls, y, h.pg hR.2.2.2.1 hR.l z2 z1 z3⟩
  · intro R M a hI _
    obtain ⟨pn, ps, ln, ls, hR, h⟩ := hI
    obtain ⟨r, R1, M1, M2, x1, x2, x3⟩ := op_laws hR h.2.2.1 a
    refine ⟨r, R1, M1, M2, x1, x2, ?_⟩
    rcases x3 with ⟨y, w, rfl⟩ | ⟨y, z1, z2⟩ | ⟨y, z1, z2, z3⟩
    · exact IvR.den y h _
    · exact ⟨pn, ps, ln, ls, y, h.lf hR.p hR.2.2.2.2 z2 z1⟩
    · exact ⟨pn, ps, ls, ln, y, h.lg hR.p hR.2.2.2.2 z2 z1 z3⟩
  · intro R M a hI _
    obtain ⟨pn, ps, ln, ls, hR, h⟩ := hI
    obtain ⟨r, x1, x2⟩ := op_fault hR h.2.2.1 a
    exact ⟨r, x1, x2, pn, ps, ln, ls, hR, h⟩
  · intro R M a b hI _ _
    obtain ⟨pn, ps, ln, ls, hR, h⟩ := hI
    obtain ⟨r, M1, M2, x1, x2, w, rfl⟩ := op_cleaner hR h.2.2.2.1.1 a b
    exact ⟨r, M1, _, x1, x2, IvR.den hR h _⟩
  · intro R M a hI _
    obtain ⟨pn, ps, ln, ls, hR, h⟩ := hI
    obtain ⟨r, M1, M2, x1, x2, w, rfl⟩ := op_works hR h.2.2.2.1.1 a
    exact ⟨r, M1, _, x1, x2, IvR.den hR h _⟩
  · intro R M a b c d e hI _ _ _ _ _
    obtain ⟨pn, ps, ln, ls, hR, h⟩ := hI
    obtain ⟨r, M1, M2, x1, x2, x3⟩ := op_row hR h.2.2.2.1.1 h.2.2.2.1.2.1 a b c d e
    refine ⟨r, M1, M2, x1, x2, ?_⟩
    rcases x3 with ⟨w, rfl⟩ | ⟨⟨y1, y2, y3, y4, y5, y6, y7⟩, rfl⟩
    · exact IvR.den hR h _
    · exact IvR.den hR (h.row hR.p hR.l y1 y2 y3 y4 y5 y6) _
  · intro R M a b hI _ _
    obtain ⟨pn, ps, ln, ls, hR, h⟩ := hI
    obtain ⟨r, M1, M2, x1, x2, x3⟩ := op_warmth (M := M) hR a b
    refine ⟨r, M1, M2, x1, x2, ?_⟩
    rcases x3 with ⟨w, rfl⟩ | ⟨-, rfl⟩
    · exact IvR.den hR h _
    · exact IvR.den hR (h.warmth hR.p hR.l _ _) _
  · intro R M a b k hI _ _ _
    obtain ⟨pn, ps, ln, ls, hR, h⟩ := hI
    obtain ⟨r, M1, M2, x1, x2, x3⟩ := op_knock hR h.2.2.2.1.1 h.2.2.2.1.2.1 a b k
    refine ⟨r, M1, M2, x1, x2, ?_⟩
    rcases x3 with ⟨w, rfl⟩ | ⟨⟨y1, y2, y3⟩, ⟨z1, z2, z3⟩, rfl⟩
    · exact IvR.den hR h _
    · exact IvR.den hR (h.ev hR.p hR.l y1 y2 y3 z2 (Or.inl rfl)) _
  · intro R M a b m k hI _ _ _ _
    obtain ⟨pn, ps, ln, ls, hR, h⟩ := hI
    obtain ⟨r, M1, M2, x1, x2, x3⟩ := op_hole hR h.2.2.2.1.1 h.2.2.2.1.2.1 a b m k
    refine ⟨r, M1, M2, x1, x2, ?_⟩
    rcases x3 with ⟨w, rfl⟩ | ⟨⟨y1, y2, y3, y4⟩, ⟨z1, z2, z3⟩, rfl⟩
    · exact IvR.den hR h _
    · exact IvR.den hR (h.ev hR.p hR.l y1 y2 y4 z2 (Or.inr (Or.inl ⟨rfl, rfl, y3, z1⟩))) _
  · intro R M a b m k hI _ _ _ _
    obtain ⟨pn, ps, ln, ls, hR, h⟩ := hI
    obtain ⟨r, M1, M2, x1, x2, x3⟩ := op_off hR h.2.2.2.1.1 h.2.2.2.1.2.1 a b m k
    refine ⟨r, M1, M2, x1, x2, ?_⟩
    rcases x3 with ⟨w, rfl⟩ | ⟨⟨y1, y2, y3, y4⟩, ⟨z1, z2, z3⟩, rfl⟩
    · exact IvR.den hR h _
    · exact IvR.den hR (h.ev hR.p hR.l y1 ⟨y2.1, by omega⟩ y4 z2 (Or.inr (Or.inr ⟨rfl, rfl, y2.2, y3⟩))) _
  · intro R M a hI _
    obtain ⟨pn, ps, ln, ls, hR, h⟩ := hI
    obtain ⟨r, M1, M2, x1, x2, x3⟩ := op_asof (M := M) hR a
    refine ⟨r, M1, M2, x1, x2, ?_⟩
    rcases x3 with ⟨w, rfl⟩ | ⟨y, rfl⟩
    · exact IvR.den hR h _
    · exact IvR.den hR (h.asof hR.p hR.l y) _
  · intro R M a b hI _ _
    obtain ⟨pn, ps, ln, ls, hR, h⟩ := hI
    obtain ⟨r, M1, M2, x1, x2, x3, x4⟩ := op_up hR h.2.2.2.1 h.2.2.2.2.1 h.2.2.2.2.2.1 a b
    exact ⟨r, M1, M2, x1, x2, IvR.fru hR h x3 x4⟩
  · intro R M a b c d hI _ _ _ _
    obtain ⟨pn, ps, ln, ls, hR, h⟩ := hI
    obtain ⟨r, M1, M2, x1, x2, x3, x4⟩ := op_at hR h.2.2.2.1 h.2.2.2.2.1 h.2.2.2.2.2.1 a b c d
    exact ⟨r, M1, M2, x1, x2, IvR.fru hR h x3 x4⟩
  · intro R M a b c hI _ _ _
    obtain ⟨pn, ps, ln, ls, hR, h⟩ := hI
    obtain ⟨r, M1, M2, x1, x2, x3, x4⟩ := op_whose hR h.2.2.2.1 h.2.2.2.2.1 h.2.2.2.2.2.1 a b c
    exact ⟨r, M1, M2, x1, x2, IvR.fru hR h x3 x4⟩
  · intro R M a b hI _ _
    obtain ⟨pn, ps, ln, ls, hR, h⟩ := hI
    obtain ⟨r, M1, M2, x1, x2, x3, x4⟩ := op_broken hR h.2.2.2.1 h.2.2.2.2.1 h.2.2.2.2.2.1 h.2.2.2.2.2.2.1 a b
    exact ⟨r, M1, M2, x1, x2, IvR.fru hR h x3 x4⟩
  · intro R M a hI _
    obtain ⟨pn, ps, ln, ls, hR, h⟩ := hI
    obtain ⟨r, M1, M2, x1, x2, x3, x4⟩ := op_breach hR h.2.2.2.1 h.2.2.2.2.1 h.2.2.2.2.2.1 h.2.2.2.2.2.2.1 a
    exact ⟨r, M1, M2, x1, x2, IvR.fru hR h x3 x4⟩
  · intro R M a b c d hI _ _ _ _
    obtain ⟨pn, ps, ln, ls, hR, h⟩ := hI
    obtain ⟨r, M1, M2, x1, x2, x3⟩ := op_torn hR h.2.1 h.2.2.2.1 h.2.2.2.2.1 h.2.2.2.2.2.1 a b c d
    refine ⟨r, M1, M2, x1, x2, ?_⟩
    rcases x3 with ⟨w, rfl⟩ | ⟨y1, y2, y3, y4, y5, y6⟩
    · exact IvR.den hR h _
    · exact ⟨pn, ps, ln, ls, hR, h.frh hR.p hR.l y1 y2 y3 y4 (by rw [y5, y6]; exact h.2.2.2.2.2.2.2.2.1)⟩
  · intro R M a hI _
    obtain ⟨pn, ps, ln, ls, hR, h⟩ := hI
    obtain ⟨r, M1, M2, x1, x2, w, rfl⟩ := op_tornTold hR h.2.2.2.2.2.2.2.1 a
    exact ⟨r, M1, _, x1, x2, IvR.den hR h _⟩
  · intro R M a b c d e hI _ _ _ _ _
    obtain ⟨pn, ps, ln, ls, hR, h⟩ := hI
    obtain ⟨r, M1, M2, x1, x2, x3⟩ := op_knocks hR h.2.1 h.2.2.2.1 h.2.2.2.2.1 h.2.2.2.2.2.1 a b c d e
    refine ⟨r, M1, M2, x1, x2, ?_⟩
    rcases x3 with ⟨w, rfl⟩ | ⟨y1, y2, y3, y4, y5, y6⟩
    · exact IvR.den hR h _
    · exact ⟨pn, ps, ln, ls, hR, h.frh hR.p hR.l y1 y2 y3 (TnOK_of h.2.2.2.2.2.2.2.1 (fun k _ _ => y5 k (by omega)) y4) y6⟩
  · intro R M hI
    obtain ⟨pn, ps, ln, ls, hR, h⟩ := hI
    obtain ⟨r, M1, M2, x1, x2, w, rfl⟩ := op_knockSet hR h.2.2.2.2.2.2.2.2.1
    exact ⟨r, M1, _, x1, x2, IvR.den hR h _⟩
  · intro R M a b c d hI _ _ _ _
    obtain ⟨pn, ps, ln, ls, hR, h⟩ := hI
    obtain ⟨r, M1, M2, x1, x2, x3, x4⟩ := op_rowOf hR h.2.1 h.2.2.2.2.2.2.2.2.2.1 a b c d
    exact ⟨r, M1, M2, x1, x2, pn, ps, ln, ls, hR, h.rf hR.p hR.l x3 x4⟩
  · intro R M a hI _
    obtain ⟨pn, ps, ln, ls, hR, h⟩ := hI
    obtain ⟨r, M1, M2, x1, x2, w, rfl⟩ := op_rowAt hR h.2.2.2.2.2.2.2.2.2.1 a
    exact ⟨r, M1, _, x1, x2, IvR.den hR h _⟩
  · intro R M a b c d hI _ _ _ _
    obtain ⟨pn, ps, ln, ls, hR, h⟩ := hI
    obtain ⟨r, M1, M2, x1, x2, w, x3⟩ := op_air hR h.2.1 a b c d
    exact ⟨r, M1, M2, x1, x2, pn, ps, ln, ls, hR, (h.den hR.p hR.l w).air hR.p hR.l x3⟩
  · intro R M a b c d hI _ _ _ _
    obtain ⟨pn, ps, ln, ls, hR, h⟩ := hI
    obtain ⟨r, M1, M2, x1, x2, x3⟩ := op_gauge hR h.2.1 a b c d
    refine ⟨r, M1, M2, x1, x2, ?_⟩
    rcases x3 with ⟨w, rfl⟩ | ⟨y1, y2⟩
    · exact IvR.den hR h _
    · exact ⟨pn, ps, ln, ls, hR, h.gf hR.p hR.l y2 y1⟩
  · intro R M a b hI _ _
    obtain ⟨pn, ps, ln, ls, hR, h⟩ := hI
    obtain ⟨r, M1, M2, x1, x2, w, rfl⟩ := op_gaugeTold hR h.2.2.2.2.2.2.2.2.2.2 a b
    exact ⟨r, M1, _, x1, x2, IvR.den hR h _⟩
