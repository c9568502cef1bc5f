theorem xPone {D : va_G} {cl : List vw_C} {w : Nat × va_E} {H : Heap} (h : va_at D cl w H) : va_P D cl [w] H := by
  intro k q hk
  cases k with
  | zero => cases hk; exact h
  | succ n => cases hk
theorem xnS {A : Nat → Prop} {H0 H : Heap} {locs : List Loc} (h : va_S A H0 H locs) : H0.size ≤ H.size := h.1
theorem xE_obj {g : xG} {R : xR} {M : xM} {i a : Nat} (h : xk i = a) (ha : a < 20) : xE g R M i = .inr (a, (List.range (xnf a)).map (xfv g R M i)) := by
  unfold xE
  rw [h, if_pos ha]
theorem xE_arr {g : xG} {R : xR} {M : xM} {i a : Nat} (h : xk i = a) (ha : 20 ≤ a) : xE g R M i = .inl (gA g (xae a), xan a, if xae a = 1 then .inr (.inl fun j => Int64.ofInt (M i j)) else .inl fun j => Int32.ofInt (M i j)) := by
  unfold xE
  rw [h, if_neg (by omega)]
theorem xE_arrI {g : xG} {R : xR} {M : xM} {i a e : Nat} (h : xk i = a) (ha : 20 ≤ a) (he : xae a = e) (h1 : e ≠ 1) : xE g R M i = .inl (gA g e, xan a, .inl fun j => Int32.ofInt (M i j)) := by
  rw [xE_arr h ha, he, if_neg h1]
theorem xE_arrL {g : xG} {R : xR} {M : xM} {i a : Nat} (h : xk i = a) (ha : 20 ≤ a) (he : xae a = 1) : xE g R M i = .inl (gA g 1, xan a, .inr (.inl fun j => Int64.ofInt (M i j))) := by
  rw [xE_arr h ha, he, if_pos rfl]
theorem xE_same {g : xG} {R R' : xR} {M M' : xM} {i : Nat} (h : ∀ k, M' i k = M i k) (h2 : ∀ k, R' i k = R i k) : xE g R' M' i = xE g R M i := by
  have e1 : xfv g R' M' i = xfv g R M i := by
    funext k
    unfold xfv
    rw [h k, h2 k]
  have e2 : M' i = M i := funext h
  unfold xE
  rw [e1]
  simp only [e2]
theorem xset_map {α : Type} {N k : Nat} {f f' : Nat → α} {v : α} (hk : f' k = v) (ho : ∀ i, i ≠ k → f' i = f i) : (List.range N).map f' = ((List.range N).map f).set k v := by
  apply List.ext_getElem?
  intro i
  rw [List.getElem?_set]
  by_cases h : k = i
  · subst h
    rw [if_pos rfl]
    by_cases hl : k < N
    · simp [hl, hk]
    · simp [hl]
  · rw [if_neg h]
    by_cases hl : i < N
    · simp [hl, ho i (fun q => h q.symm)]
    · simp [hl]
theorem xu_same {α : Type} (f : Nat → Nat → α) (c i : Nat) (v : α) : xu f c i v c i = v := if_pos ⟨rfl, rfl⟩
theorem xu_ne {α : Type} (f : Nat → Nat → α) {c i a b : Nat} (v : α) (h : ¬ (a = c ∧ b = i)) : xu f c i v a b = f a b := if_neg h
/-- a cell's place, another's -/
theorem xP_set {g : xG} {cm : Bool} {R R' : xR} {M M' : xM} {nx j : Nat} {H H1 : Heap} (hP : xP g cm R M nx H) (hz : H1.size = H.size) (ho : ∀ q : Nat, q ≠ gb g + j → H1[q]? = H[q]?)
    (hj : va_at (gD g) xcl (gb g + j, xE g R' M' j) H1) (hM : ∀ i k, i ≠ j → M' i k = M i k) (hR : ∀ i k, i ≠ j → R' i k = R i k) (hT : xT cm R' nx) (hr : xMr M') : xP g cm R' M' nx H1 := by
  obtain ⟨h1, h2, h3, -, -⟩ := hP
  refine ⟨h1, fun q => by rw [hz]; exact h2 q, fun i hi hn => ?_, hT, hr⟩
  by_cases e : i = j
  · subst e; exact hj
  · rw [xE_same (fun k => hM i k e) (fun k => hR i k e)]
    exact (h3 i hi hn).kept (ho _ (by show gb g + i ≠ gb g + j; omega))
theorem xMr_set {M : xM} {j k : Nat} {v : Int} (h : xMr M) (h1 : xlg j k = false → xi32 v) (h2 : xlg j k = true → xi64 v) : xMr (xu M j k v) := by
  intro a b
  by_cases e : a = j ∧ b = k
  · obtain ⟨rfl, rfl⟩ := e
    rw [xu_same]
    exact ⟨h1, h2⟩
  · rw [xu_ne _ _ e]
    exact h a b
section XHP
variable {p : Program} {l : Launch} {e : Env} {Rm : Room} {s : State} {m : MethodId} {args : Array Value} {below : List Frame} {meth : Method} {c : Code} {H : Heap} {locs : List Loc} {cells slots : Nat} {Q : State → Prop} {cc : ByteArray} {pc : Nat} {mls : Array Slot} {rest : List Value}
  {D : va_G} {cl : List vw_C} {tys : List (ClassId × FieldType)} {A : Nat → Prop} {H0 : Heap} {a : Nat}
theorem xput (hexec : p.tables.exec = Jvm.exec) (hb : c.code = cc) {own C : String} {T : u_T} {N ci index : Nat} {Ts : List Cond} (hts : ∀ w ∈ Ts, w.before args s = true) (hin : ∀ w ∈ u_ws C T N, w ∈ Ts) (ty0 : Nat → FieldType) (hty : ∀ k, k < N → parseFieldDescriptor (T k).2.2.1 = some (ty0 k)) (hnm : ∀ a, a < N → ∀ b, b < N → a ≠ b → (T a).2.1 ≠ (T b).2.1) (hown : s.vm.findClass own = some m.cls) (hK : va_K D cl tys s) {fs : List Value} (hP : va_at D cl (a, .inr (ci, fs)) H) (hA : A a) (hS0 : va_S A H0 H locs) (hc : cl[ci]? = some (C, T, N)) (k : Nat) (hk : k < N)
    (hlink : (Cond.fieldLink own index (T k).1 (T k).2.1 (T k).2.2.1).before args s = true) (hfin : (T k).2.2.2 = false ∨ (meth.name = "<init>" ∧ (T k).1 = own)) {v : Value} (hn : narrow (ty0 k) v = v) (hfit : fits (ty0 k) v = true) (hl : k < fs.length)
    (hdg : decode cc pc = .ok (.putfield index, 3)) (kk : ∀ (H1 : Heap) (locs1 : List Loc), va_at D cl (a, .inr (ci, fs.set k v)) H1 → H1.size = H.size → (∀ q : Nat, q ≠ a → H1[q]? = H[q]?) → va_S A H0 H1 locs1 → W p l e Rm s m args below meth c H1 locs1 cells slots Q (F0 m (pc + 3) mls rest)) : W p l e Rm s m args below meth c H locs cells slots Q (F0 m pc mls (v :: .ref a :: rest)) := by
  have hap := va_apart (own := own) hts hin ty0 hty hnm hK hc
  obtain ⟨r, h1, cell, q1, q2, q3, q4⟩ := hP
  have hr : r = (C, T, N) := Option.some.inj (h1.symm.trans hc)
  subst hr
  obtain ⟨hS, hfc, kC, hkC, hkind⟩ := hK.1 ci _ hc
  obtain ⟨cf, kf, fi, f, hi, hsl⟩ := hS k hk
  have hlay := hts _ (hin _ (u_in_lay hk))
  have hst := (u_facts hfc hkC (u_lays hts hin hk) hi).1
  have fin : ∀ (H' : Heap), H'[a]? = some (cell.setSlot f.slot v) → H'.size = H.size → (∀ q : Nat, q ≠ a → H'[q]? = H[q]?) → W p l e Rm s m args below meth c H' (locs ++ [⟨a, f.slot⟩]) cells slots Q (F0 m (pc + 3) mls rest) := by
    intro H' e1 e2 e3
    rw [hsl] at e1
    exact kk H' _ ⟨_, hc, t_OB.to (V := updV (vp_V fs) k v) ⟨_, e1, q2, q3, t_set q4 hap hk v⟩ (fun j _ => vp_updV_set hl v j)⟩ e2 e3 (hS0.put e2 e3 hA)
  by_cases hf : (T k).2.2.2 = true
  · rcases hfin with hfin | ⟨hin2, hdecl⟩
    · rw [hfin] at hf; cases hf
    unfold u_lay at hlay
    rw [if_pos hf] at hlay
    have hcf : m.cls = cf := by
      obtain ⟨_, _, c', _, _, _, -, -, hf', -, -, -, hown2, -⟩ := Cond.laysFinal_spec hlay
      have e1 : c' = cf := by have := hi.symm.trans hf'; simp at this; exact this.1.symm
      rw [hdecl] at hown2
      rw [← e1]; exact Option.some.inj (hown.symm.trans hown2)
    have h6 := u_fits hfc hkC hkind (Or.inr hlay) hi (hty k hk) hn hfit
    exact W.putFinK hexec hb hown hlink hi hst hcf hin2 (by rw [q2]; exact h6) q1 q3 (by rw [hsl]; exact k2_hasslot (q4 k hk)) rfl rfl hdg fin
  · unfold u_lay at hlay
    rw [if_neg hf] at hlay
    have h6 := u_store hfc hkC hkind hlay hi (hty k hk) hn hfit
    exact W.putK hexec hb (f := f) ⟨hown, hlink, ⟨_, _, _, hi⟩, hst⟩ (by rw [q2]; exact h6) q1 q3 (by rw [hsl]; exact k2_hasslot (q4 k hk)) rfl rfl hdg fin
theorem xast_i (hexec : p.tables.exec = Jvm.exec) (hb : c.code = cc) (hK : va_K D cl tys s) (t0 : Nat) {cA : ClassId} {n : Nat} {f : Nat → Int32} (hP : va_at D cl (a, .inl (cA, n, .inl f)) H) (hA : A a) (hS : va_S A H0 H locs) (ht : tys[t0]? = some (cA, .int)) {i : Int32} {x : Int32} (hin : vp_in i n) (hdg : decode cc pc = .ok (.iastore, 1))
    (kk : ∀ (H1 : Heap) (locs1 : List Loc), va_at D cl (a, .inl (cA, n, .inl (upd f i.toNatClampNeg x))) H1 → H1.size = H.size → (∀ q : Nat, q ≠ a → H1[q]? = H[q]?) → va_S A H0 H1 locs1 → W p l e Rm s m args below meth c H1 locs1 cells slots Q (F0 m (pc + 1) mls rest)) : W p l e Rm s m args below meth c H locs cells slots Q (F0 m pc mls (.int x :: .int i :: .ref a :: rest)) := by
  refine W.iast hexec hb hP ((hK.2 t0 _ ht).1 n (fun j => .int (f j))) (fun q => by cases q) (by show ¬ (i < 0 ∨ (arrV _ _ _).slots.size ≤ _); rw [arrV_size]; exact hin) rfl rfl hdg fun H1 e z oq => ?_
  refine kk H1 _ ?_ z oq (hS.put z oq hA)
  show H1[a]? = some (vp_cell _ _)
  rw [e, vp_cell_i, vp_cell_i, arrV_store]
  congr 2
  funext q
  by_cases hq : q = i.toNatClampNeg
  · subst hq; simp [updV, upd]
  · simp [updV, upd, hq]
theorem xast_l (hexec : p.tables.exec = Jvm.exec) (hb : c.code = cc) (hK : va_K D cl tys s) (t0 : Nat) {cA : ClassId} {n : Nat} {f : Nat → Int64} (hP : va_at D cl (a, .inl (cA, n, .inr (.inl f))) H) (hA : A a) (hS : va_S A H0 H locs) (ht : tys[t0]? = some (cA, .long)) {i : Int32} {x : Int64} (hin : vp_in i n) (hdg : decode cc pc = .ok (.lastore, 1))
    (kk : ∀ (H1 : Heap) (locs1 : List Loc), va_at D cl (a, .inl (cA, n, .inr (.inl (vp_updL f i.toNatClampNeg x)))) H1 → H1.size = H.size → (∀ q : Nat, q ≠ a → H1[q]? = H[q]?) → va_S A H0 H1 locs1 → W p l e Rm s m args below meth c H1 locs1 cells slots Q (F0 m (pc + 1) mls rest)) : W p l e Rm s m args below meth c H locs cells slots Q (F0 m pc mls (.long x :: .int i :: .ref a :: rest)) := by
  refine W.last hexec hb hP ((hK.2 t0 _ ht).1 n (fun j => .long (f j))) (fun q => by cases q) (by show ¬ (i < 0 ∨ (arrV _ _ _).slots.size ≤ _); rw [arrV_size]; exact hin) rfl rfl hdg fun H1 e z oq => ?_
  refine kk H1 _ ?_ z oq (hS.put z oq hA)
  show H1[a]? = some (vp_cell _ _)
  rw [e, vp_cell_l, vp_cell_l, arrV_store]
  congr 2
  funext q
  by_cases hq : q = i.toNatClampNeg
  · subst hq; simp [updV, vp_updL]
  · simp [updV, vp_updL, hq]
theorem xast_b (hexec : p.tables.exec = Jvm.exec) (hb : c.code = cc) (hK : va_K D cl tys s) (t0 : Nat) {cA : ClassId} {n : Nat} {f : Nat → Int32} (hP : va_at D cl (a, .inl (cA, n, .inl f)) H) (hA : A a) (hS : va_S A H0 H locs) (ht : tys[t0]? = some (cA, .byte)) {i : Int32} {x y : Int32} (hin : vp_in i n) (hy : narrow .byte (.int x) = .int y) (hdg : decode cc pc = .ok (.bastore, 1))
    (kk : ∀ (H1 : Heap) (locs1 : List Loc), va_at D cl (a, .inl (cA, n, .inl (upd f i.toNatClampNeg y))) H1 → H1.size = H.size → (∀ q : Nat, q ≠ a → H1[q]? = H[q]?) → va_S A H0 H1 locs1 → W p l e Rm s m args below meth c H1 locs1 cells slots Q (F0 m (pc + 1) mls rest)) : W p l e Rm s m args below meth c H locs cells slots Q (F0 m pc mls (.int x :: .int i :: .ref a :: rest)) := by
  refine W.bast hexec hb hP ((hK.2 t0 _ ht).1 n (fun j => .int (f j))) (fun q => by cases q) (by show ¬ (i < 0 ∨ (arrV _ _ _).slots.size ≤ _); rw [arrV_size]; exact hin) rfl rfl hdg fun H1 e z oq => ?_
  refine kk H1 _ ?_ z oq (hS.put z oq hA)
  show H1[a]? = some (vp_cell _ _)
  rw [hy] at e
  rw [e, vp_cell_i, vp_cell_i, arrV_store]
  congr 2
  funext q
  by_cases hq : q = i.toNatClampNeg
  · subst hq; simp [updV, upd]
  · simp [updV, upd, hq]
theorem xast_z (hexec : p.tables.exec = Jvm.exec) (hb : c.code = cc) (hK : va_K D cl tys s) (t0 : Nat) {cA : ClassId} {n : Nat} {f : Nat → Int32} (hP : va_at D cl (a, .inl (cA, n, .inl f)) H) (hA : A a) (hS : va_S A H0 H locs) (ht : tys[t0]? = some (cA, .boolean)) {i : Int32} {x y : Int32} (hin : vp_in i n) (hy : narrow .boolean (.int x) = .int y) (hdg : decode cc pc = .ok (.bastore, 1))
    (kk : ∀ (H1 : Heap) (locs1 : List Loc), va_at D cl (a, .inl (cA, n, .inl (upd f i.toNatClampNeg y))) H1 → H1.size = H.size → (∀ q : Nat, q ≠ a → H1[q]? = H[q]?) → va_S A H0 H1 locs1 → W p l e Rm s m args below meth c H1 locs1 cells slots Q (F0 m (pc + 1) mls rest)) : W p l e Rm s m args below meth c H locs cells slots Q (F0 m pc mls (.int x :: .int i :: .ref a :: rest)) := by
  refine W.zast hexec hb hP ((hK.2 t0 _ ht).1 n (fun j => .int (f j))) (fun q => by cases q) (by show ¬ (i < 0 ∨ (arrV _ _ _).slots.size ≤ _); rw [arrV_size]; exact hin) rfl rfl hdg fun H1 e z oq => ?_
  refine kk H1 _ ?_ z oq (hS.put z oq hA)
  show H1[a]? = some (vp_cell _ _)
  rw [hy] at e
  rw [e, vp_cell_i, vp_cell_i, arrV_store]
  congr 2
  funext q
  by_cases hq : q = i.toNatClampNeg
  · subst hq; simp [updV, upd]
  · simp [updV, upd, hq]
end XHP
theorem xnar_b (v : Int) : narrow .byte (.int (Int32.ofInt v)) = .int (Int32.ofInt (w8 v)) := by
  rw [← xn_i2b]; rfl
theorem xnar_z {v : Int} (h : v = 0 ∨ v = 1) : narrow .boolean (.int (Int32.ofInt v)) = .int (Int32.ofInt v) := by
  rcases h with rfl | rfl <;> rfl
