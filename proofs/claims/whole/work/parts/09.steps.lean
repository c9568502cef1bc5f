section XBR
variable {p : Program} {l : Launch} {e : Env} {Rm : Room} {s : State} {m : MethodId} {args : Array Value} {below : List Frame} {meth : Method} {c : Code} {H : Heap} {locs : List Loc} {cells slots : Nat} {Q : State → Prop} {cc : ByteArray} {pc : Nat} {mls : Array Slot} {rest : List Value}
theorem xz0 : (0 : Int32) = Int32.ofInt 0 := rfl
theorem x0i : xi32 0 := ⟨by decide, by decide⟩
theorem xif_t (hx : p.tables.exec = Jvm.exec) (hb : c.code = cc) {cd : ClassFile.Cond} {off : Int} {tgt : Nat} {x : Int} (hi : xi32 x) (hd : decode cc pc = .ok (.ifCond cd off, 3)) (hc : xrel cd x 0) (ht : (pc : Int) + off = (tgt : Int)) (k : W p l e Rm s m args below meth c H locs cells slots Q (F0 m tgt mls rest)) : W p l e Rm s m args below meth c H locs cells slots Q (F0 m pc mls (.int (Int32.ofInt x) :: rest)) := by
  cases cd
  case eq => exact lv_if_eq hx hb hd ht (fun _ => k) (fun q => absurd ((xn_eq hi x0i).mpr hc) q)
  case ne => exact lv_if_ne hx hb hd ht (fun _ => k) (fun q => absurd ((xn_eq hi x0i).mp q) hc)
  case lt => exact lv_if_lt hx hb hd ht (fun _ => k) (fun q => absurd ((xn_lt hi x0i).mpr hc) q)
  case ge => exact lv_if_ge hx hb hd ht (fun _ => k) (fun q => absurd ((xn_le x0i hi).mpr hc) q)
  case gt => exact lv_if_gt hx hb hd ht (fun _ => k) (fun q => absurd ((xn_lt x0i hi).mpr hc) q)
  case le => exact lv_if_le hx hb hd ht (fun _ => k) (fun q => absurd ((xn_le hi x0i).mpr hc) q)
theorem xif_f (hx : p.tables.exec = Jvm.exec) (hb : c.code = cc) {cd : ClassFile.Cond} {off : Int} {tgt : Nat} {x : Int} (hi : xi32 x) (hd : decode cc pc = .ok (.ifCond cd off, 3)) (hc : ¬ xrel cd x 0) (ht : (pc : Int) + off = (tgt : Int)) (k : W p l e Rm s m args below meth c H locs cells slots Q (F0 m (pc + 3) mls rest)) : W p l e Rm s m args below meth c H locs cells slots Q (F0 m pc mls (.int (Int32.ofInt x) :: rest)) := by
  cases cd
  case eq => exact lv_if_eq hx hb hd ht (fun q => absurd ((xn_eq hi x0i).mp q) hc) (fun _ => k)
  case ne => exact lv_if_ne hx hb hd ht (fun q => absurd (fun h => q ((xn_eq hi x0i).mpr h)) hc) (fun _ => k)
  case lt => exact lv_if_lt hx hb hd ht (fun q => absurd ((xn_lt hi x0i).mp q) hc) (fun _ => k)
  case ge => exact lv_if_ge hx hb hd ht (fun q => absurd ((xn_le x0i hi).mp q) hc) (fun _ => k)
  case gt => exact lv_if_gt hx hb hd ht (fun q => absurd ((xn_lt x0i hi).mp q) hc) (fun _ => k)
  case le => exact lv_if_le hx hb hd ht (fun q => absurd ((xn_le hi x0i).mp q) hc) (fun _ => k)
theorem xicmp_t (hx : p.tables.exec = Jvm.exec) (hb : c.code = cc) {cd : ClassFile.Cond} {off : Int} {tgt : Nat} {x y : Int} (hi : xi32 x) (hj : xi32 y) (hd : decode cc pc = .ok (.if_icmp cd off, 3)) (hc : xrel cd x y) (ht : (pc : Int) + off = (tgt : Int)) (k : W p l e Rm s m args below meth c H locs cells slots Q (F0 m tgt mls rest)) : W p l e Rm s m args below meth c H locs cells slots Q (F0 m pc mls (.int (Int32.ofInt y) :: .int (Int32.ofInt x) :: rest)) := by
  cases cd
  case eq => exact lv_icmp_eq hx hb hd ht (fun _ => k) (fun q => absurd ((xn_eq hi hj).mpr hc) q)
  case ne => exact lv_icmp_ne hx hb hd ht (fun _ => k) (fun q => absurd ((xn_eq hi hj).mp q) hc)
  case lt => exact lv_icmp_lt hx hb hd ht (fun _ => k) (fun q => absurd ((xn_lt hi hj).mpr hc) q)
  case ge => exact lv_icmp_ge hx hb hd ht (fun _ => k) (fun q => absurd ((xn_le hj hi).mpr hc) q)
  case gt => exact lv_icmp_gt hx hb hd ht (fun _ => k) (fun q => absurd ((xn_lt hj hi).mpr hc) q)
  case le => exact lv_icmp_le hx hb hd ht (fun _ => k) (fun q => absurd ((xn_le hi hj).mpr hc) q)
theorem xicmp_f (hx : p.tables.exec = Jvm.exec) (hb : c.code = cc) {cd : ClassFile.Cond} {off : Int} {tgt : Nat} {x y : Int} (hi : xi32 x) (hj : xi32 y) (hd : decode cc pc = .ok (.if_icmp cd off, 3)) (hc : ¬ xrel cd x y) (ht : (pc : Int) + off = (tgt : Int)) (k : W p l e Rm s m args below meth c H locs cells slots Q (F0 m (pc + 3) mls rest)) : W p l e Rm s m args below meth c H locs cells slots Q (F0 m pc mls (.int (Int32.ofInt y) :: .int (Int32.ofInt x) :: rest)) := by
  cases cd
  case eq => exact lv_icmp_eq hx hb hd ht (fun q => absurd ((xn_eq hi hj).mp q) hc) (fun _ => k)
  case ne => exact lv_icmp_ne hx hb hd ht (fun q => absurd (fun h => q ((xn_eq hi hj).mpr h)) hc) (fun _ => k)
  case lt => exact lv_icmp_lt hx hb hd ht (fun q => absurd ((xn_lt hi hj).mp q) hc) (fun _ => k)
  case ge => exact lv_icmp_ge hx hb hd ht (fun q => absurd ((xn_le hj hi).mp q) hc) (fun _ => k)
  case gt => exact lv_icmp_gt hx hb hd ht (fun q => absurd ((xn_lt hj hi).mp q) hc) (fun _ => k)
  case le => exact lv_icmp_le hx hb hd ht (fun q => absurd ((xn_le hi hj).mp q) hc) (fun _ => k)
end XBR
theorem xlk_mem {n : Nat} {v : xV} : ∀ {ls : xL}, xlk n ls = some v → (n, v) ∈ ls := by
  intro ls
  induction ls with
  | nil => intro h; cases h
  | cons q r ih =>
    intro h
    unfold xlk at h
    cases hb : Nat.beq q.1 n with
    | true =>
      rw [hb] at h
      have e : q.2 = v := Option.some.inj h
      have e1 : q.1 = n := Nat.eq_of_beq_eq_true hb
      rw [← e, ← e1]
      exact List.mem_cons_self
    | false =>
      rw [hb] at h
      exact List.mem_cons_of_mem _ (ih h)
theorem xls_at {g : xG} {mls : Array Slot} {nL n : Nat} {ls : xL} {v : xV} (h : lv_has mls nL (xcl2 g ls)) (hk : xlk n ls = some v) : mls[n]? = some (.val (xc g v)) := h.2.2 (n, xc g v) (List.mem_map.mpr ⟨(n, v), xlk_mem hk, rfl⟩)
theorem xflt_mem {lg : Bool} {n : Nat} {q : Nat × xV} : ∀ {ls : xL}, q ∈ xflt lg n ls → q ∈ ls := by
  intro ls
  induction ls with
  | nil => intro h; exact h
  | cons a r ih =>
    intro h
    unfold xflt at h
    cases hb : (Nat.beq a.1 n || ((lg && Nat.beq a.1 (n + 1)) || (Nat.beq (a.1 + 1) n && xlong a.2))) with
    | true => rw [hb] at h; exact List.mem_cons_of_mem _ (ih h)
    | false =>
      rw [hb] at h
      rcases List.mem_cons.mp h with rfl | h
      · exact List.mem_cons_self
      · exact List.mem_cons_of_mem _ (ih h)
theorem xbeq (a n : Nat) : (a == n) = Nat.beq a n := by
  apply Bool.eq_iff_iff.mpr
  rw [beq_iff_eq, Nat.beq_eq]
theorem xflt_map1 {g : xG} (hf : gf g = .null ∨ ∃ a, gf g = .ref a) (n : Nat) : ∀ ls : xL, (xcl2 g ls).filter (fun q => !(q.1 == n) && !(q.1 + 1 == n && q.2.category == 2)) = xcl2 g (xflt false n ls) := by
  intro ls
  induction ls with
  | nil => rfl
  | cons a r ih =>
    show List.filter _ ((a.1, xc g a.2) :: xcl2 g r) = _
    have hcat := xcat hf a.2
    rw [List.filter_cons, ih]
    show _ = xcl2 g (cond (Nat.beq a.1 n || ((false && Nat.beq a.1 (n + 1)) || (Nat.beq (a.1 + 1) n && xlong a.2))) (xflt false n r) (a :: xflt false n r))
    have e1 : (a.1 == n) = Nat.beq a.1 n := xbeq _ _
    have e2 : (a.1 + 1 == n) = Nat.beq (a.1 + 1) n := xbeq _ _
    have e3 : ((xc g a.2).category == 2) = xlong a.2 := by rw [hcat]; cases xlong a.2 <;> rfl
    simp only [e1, e2, e3]
    cases Nat.beq a.1 n <;> cases Nat.beq (a.1 + 1) n <;> cases xlong a.2 <;> rfl
theorem xflt_map2 {g : xG} (hf : gf g = .null ∨ ∃ a, gf g = .ref a) (n : Nat) : ∀ ls : xL, (xcl2 g ls).filter (fun q => !(q.1 == n) && (!(q.1 == n + 1) && !(q.1 + 1 == n && q.2.category == 2))) = xcl2 g (xflt true n ls) := by
  intro ls
  induction ls with
  | nil => rfl
  | cons a r ih =>
    show List.filter _ ((a.1, xc g a.2) :: xcl2 g r) = _
    have hcat := xcat hf a.2
    rw [List.filter_cons, ih]
    show _ = xcl2 g (cond (Nat.beq a.1 n || ((true && Nat.beq a.1 (n + 1)) || (Nat.beq (a.1 + 1) n && xlong a.2))) (xflt true n r) (a :: xflt true n r))
    have e1 : (a.1 == n) = Nat.beq a.1 n := xbeq _ _
    have e2 : (a.1 + 1 == n) = Nat.beq (a.1 + 1) n := xbeq _ _
    have e3 : ((xc g a.2).category == 2) = xlong a.2 := by rw [hcat]; cases xlong a.2 <;> rfl
    have e4 : (a.1 == n + 1) = Nat.beq a.1 (n + 1) := xbeq _ _
    simp only [e1, e2, e3, e4]
    cases Nat.beq a.1 n <;> cases Nat.beq (a.1 + 1) n <;> cases Nat.beq a.1 (n + 1) <;> cases xlong a.2 <;> rfl
theorem xsto_ok {nx n : Nat} {v : xV} {ls : xL} (h : ∀ q ∈ ls, xok nx q.2) (hv : xok nx v) : ∀ q ∈ xsto n v ls, xok nx q.2 := by
  intro q hq
  rcases List.mem_cons.mp hq with rfl | hq
  · exact hv
  · exact h q (xflt_mem hq)
theorem xst_in {o n a : Nat} {b : Int} {s : State} {args : Array Value} {g : xG} (hts : ∀ w ∈ xws, w.before args s = true) (hR : ∀ j, j < 7 → vk_R (xsR.getD j ("", 0, "")).1 (xsR.getD j ("", 0, "")).2.1 (xsR.getD j ("", 0, "")).2.2 (gK g j) s) (h : xldb o n a b = true) :
    (a = 0 → (Cond.constant (xown o) n (Int32.ofInt b)).before args s = true ∧ xi32 b) ∧ (∀ k, a = k + 1 → k < 7 ∧ ∃ tx, vk_R (xown o) n tx (gK g k) s) := by
  constructor
  · rintro rfl
    simp only [xldb, Bool.and_eq_true, decide_eq_true_eq, xr32] at h
    exact ⟨hts _ (xci_in h.1), h.2⟩
  · rintro k rfl
    simp only [xldb, Bool.and_eq_true, decide_eq_true_eq] at h
    obtain ⟨h1, h2, h3⟩ := h
    refine ⟨h1, (xsR.getD k ("", 0, "")).2.2, ?_⟩
    have := hR k h1
    rw [h2, h3] at this
    exact this
