def xtm (i : Nat) : Term := .string (xsR.getD i ("", 0, "")).1 (xsR.getD i ("", 0, "")).2.1
def xgn : List Cond := flatC (Jvm.Cond.and given_1 narrow_1)
theorem xgin {ps : List Nat} {ws : List Cond} (h : ps.map (fun i => xgn[i]?) = ws.map some) : ∀ w ∈ ws, w ∈ xgn := by
  intro w hw
  have h1 : some w ∈ ws.map some := List.mem_map.mpr ⟨w, hw, rfl⟩
  rw [← h] at h1
  obtain ⟨i, -, hi⟩ := List.mem_map.mp h1
  exact List.mem_of_getElem? hi
set_option maxRecDepth 100000 in
theorem xg_ex0 : [9, 13, 20, 110, 124, 178, 272].map (fun i => xgn[i]?) = ((List.range 7).map fun i => (Cond.exactly (xtm i) "java/lang/String")).map some := by decide +kernel
theorem xg_ex : ∀ i, i < 7 → (Cond.exactly (xtm i) "java/lang/String") ∈ xgn := fun i hi => xgin xg_ex0 _ (List.mem_map.mpr ⟨i, List.mem_range.mpr hi, rfl⟩)
set_option maxRecDepth 100000 in
theorem xg_co0 : [10, 14, 21, 111, 125, 179, 273].map (fun i => xgn[i]?) = ((List.range 7).map fun i => (Cond.eq (.field (xtm i) "java/lang/String" "coder" "B") (.int 0))).map some := by decide +kernel
theorem xg_co : ∀ i, i < 7 → (Cond.eq (.field (xtm i) "java/lang/String" "coder" "B") (.int 0)) ∈ xgn := fun i hi => xgin xg_co0 _ (List.mem_map.mpr ⟨i, List.mem_range.mpr hi, rfl⟩)
set_option maxRecDepth 100000 in
theorem xg_ar0 : [11, 15, 22, 112, 126, 180, 274].map (fun i => xgn[i]?) = ((List.range 7).map fun i => (Cond.arrayOf (.field (xtm i) "java/lang/String" "value" "[B") .byte)).map some := by decide +kernel
theorem xg_ar : ∀ i, i < 7 → (Cond.arrayOf (.field (xtm i) "java/lang/String" "value" "[B") .byte) ∈ xgn := fun i hi => xgin xg_ar0 _ (List.mem_map.mpr ⟨i, List.mem_range.mpr hi, rfl⟩)
set_option maxRecDepth 100000 in
theorem xg_le0 : [12, 16, 23, 113, 127, 181, 275].map (fun i => xgn[i]?) = ((List.range 7).map fun i => (Cond.eq (.length (.field (xtm i) "java/lang/String" "value" "[B")) (.int (Int32.ofNat (xsLen.getD i 0))))).map some := by decide +kernel
theorem xg_le : ∀ i, i < 7 → (Cond.eq (.length (.field (xtm i) "java/lang/String" "value" "[B")) (.int (Int32.ofNat (xsLen.getD i 0)))) ∈ xgn := fun i hi => xgin xg_le0 _ (List.mem_map.mpr ⟨i, List.mem_range.mpr hi, rfl⟩)
set_option maxRecDepth 100000 in
theorem xg_el0 : ([] : List Nat).map (fun i => xgn[i]?) = ((List.range (xsLen.getD 0 0)).map fun j => (Cond.eq (.elem (.field (xtm 0) "java/lang/String" "value" "[B") (.int (Int32.ofNat j))) (.int ((xsByt.getD 0 []).getD j 0)))).map some := by decide +kernel
set_option maxRecDepth 100000 in
theorem xg_el1 : ([17, 18] : List Nat).map (fun i => xgn[i]?) = ((List.range (xsLen.getD 1 0)).map fun j => (Cond.eq (.elem (.field (xtm 1) "java/lang/String" "value" "[B") (.int (Int32.ofNat j))) (.int ((xsByt.getD 1 []).getD j 0)))).map some := by decide +kernel
set_option maxRecDepth 100000 in
theorem xg_el2 : ([24, 25, 26, 27, 28, 29, 30, 31, 32, 33, 34, 35, 36, 37, 38, 39, 40, 41, 42, 43, 44, 45, 46, 47, 48, 49, 50, 51, 52, 53, 54, 55, 56, 57, 58, 59, 60, 61, 62, 63, 64, 65, 66, 67, 68, 69, 70, 71, 72, 73, 74, 75, 76, 77, 78, 79, 80, 81, 82, 83, 84, 85, 86, 87, 88, 89, 90, 91, 92, 93, 94, 95, 96, 97, 98, 99, 100, 101, 102, 103, 104, 105, 106, 107] : List Nat).map (fun i => xgn[i]?) = ((List.range (xsLen.getD 2 0)).map fun j => (Cond.eq (.elem (.field (xtm 2) "java/lang/String" "value" "[B") (.int (Int32.ofNat j))) (.int ((xsByt.getD 2 []).getD j 0)))).map some := by decide +kernel
set_option maxRecDepth 100000 in
theorem xg_el3 : ([114, 115, 116, 117, 118, 119, 120] : List Nat).map (fun i => xgn[i]?) = ((List.range (xsLen.getD 3 0)).map fun j => (Cond.eq (.elem (.field (xtm 3) "java/lang/String" "value" "[B") (.int (Int32.ofNat j))) (.int ((xsByt.getD 3 []).getD j 0)))).map some := by decide +kernel
set_option maxRecDepth 100000 in
theorem xg_el4 : ([128, 129, 130, 131, 132, 133, 134, 135, 136, 137, 138, 139, 140, 141, 142, 143, 144, 145, 146, 147, 148, 149, 150, 151, 152, 153, 154, 155, 156, 157, 158, 159, 160, 161, 162, 163, 164, 165, 166, 167, 168, 169, 170, 171, 172, 173] : List Nat).map (fun i => xgn[i]?) = ((List.range (xsLen.getD 4 0)).map fun j => (Cond.eq (.elem (.field (xtm 4) "java/lang/String" "value" "[B") (.int (Int32.ofNat j))) (.int ((xsByt.getD 4 []).getD j 0)))).map some := by decide +kernel
set_option maxRecDepth 100000 in
theorem xg_el5 : ([182, 183, 184, 185, 186, 187, 188, 189, 190, 191, 192, 193, 194, 195, 196, 197, 198, 199, 200, 201, 202, 203, 204, 205, 206, 207, 208, 209, 210, 211, 212, 213, 214, 215, 216, 217, 218, 219, 220, 221, 222, 223, 224, 225, 226, 227, 228, 229, 230, 231, 232, 233, 234, 235, 236, 237, 238, 239, 240, 241, 242, 243, 244, 245, 246, 247, 248, 249, 250, 251, 252, 253, 254, 255, 256, 257, 258, 259, 260, 261, 262, 263, 264, 265, 266] : List Nat).map (fun i => xgn[i]?) = ((List.range (xsLen.getD 5 0)).map fun j => (Cond.eq (.elem (.field (xtm 5) "java/lang/String" "value" "[B") (.int (Int32.ofNat j))) (.int ((xsByt.getD 5 []).getD j 0)))).map some := by decide +kernel
set_option maxRecDepth 100000 in
theorem xg_el6 : ([276, 277, 278, 279, 280, 281, 282, 283, 284, 285, 286, 287, 288, 289, 290, 291, 292, 293, 294, 295, 296, 297, 298, 299, 300, 301, 302, 303, 304, 305, 306, 307, 308, 309, 310, 311, 312, 313, 314, 315, 316, 317, 318, 319, 320, 321, 322] : List Nat).map (fun i => xgn[i]?) = ((List.range (xsLen.getD 6 0)).map fun j => (Cond.eq (.elem (.field (xtm 6) "java/lang/String" "value" "[B") (.int (Int32.ofNat j))) (.int ((xsByt.getD 6 []).getD j 0)))).map some := by decide +kernel
theorem xg_el : ∀ i, i < 7 → ∀ j, j < xsLen.getD i 0 → (Cond.eq (.elem (.field (xtm i) "java/lang/String" "value" "[B") (.int (Int32.ofNat j))) (.int ((xsByt.getD i []).getD j 0))) ∈ xgn := by
  intro i hi j hj
  match i, hi, hj with
  | 0, _, hj => exact xgin xg_el0 _ (List.mem_map.mpr ⟨j, List.mem_range.mpr hj, rfl⟩)
  | 1, _, hj => exact xgin xg_el1 _ (List.mem_map.mpr ⟨j, List.mem_range.mpr hj, rfl⟩)
  | 2, _, hj => exact xgin xg_el2 _ (List.mem_map.mpr ⟨j, List.mem_range.mpr hj, rfl⟩)
  | 3, _, hj => exact xgin xg_el3 _ (List.mem_map.mpr ⟨j, List.mem_range.mpr hj, rfl⟩)
  | 4, _, hj => exact xgin xg_el4 _ (List.mem_map.mpr ⟨j, List.mem_range.mpr hj, rfl⟩)
  | 5, _, hj => exact xgin xg_el5 _ (List.mem_map.mpr ⟨j, List.mem_range.mpr hj, rfl⟩)
  | 6, _, hj => exact xgin xg_el6 _ (List.mem_map.mpr ⟨j, List.mem_range.mpr hj, rfl⟩)
def xneL : List (Nat × Nat) := [(0, 1), (0, 2), (0, 3), (0, 4), (0, 5), (0, 6), (1, 2), (1, 3), (1, 4), (1, 5), (1, 6), (2, 3), (2, 4), (2, 5), (2, 6), (3, 4), (3, 5), (3, 6), (4, 5), (4, 6), (5, 6)]
set_option maxRecDepth 100000 in
theorem xg_ne0 : [19, 108, 121, 174, 267, 323, 109, 122, 175, 268, 324, 123, 176, 269, 325, 177, 270, 326, 271, 327, 328].map (fun i => xgn[i]?) = (xneL.map fun q => Cond.not (Cond.eq (xtm q.1) (xtm q.2))).map some := by decide +kernel
theorem xneL_all : ∀ i, i < 7 → ∀ j, j < 7 → (i = j ∨ (i, j) ∈ xneL ∨ (j, i) ∈ xneL) := by decide
theorem xg_ne : ∀ i, i < 7 → ∀ j, j < 7 → i ≠ j → (Cond.not (Cond.eq (xtm i) (xtm j))) ∈ xgn ∨ (Cond.not (Cond.eq (xtm j) (xtm i))) ∈ xgn := fun i hi j hj h => ((xneL_all i hi j hj).resolve_left h).imp (fun q => xgin xg_ne0 _ (List.mem_map.mpr ⟨(i, j), q, rfl⟩)) (fun q => xgin xg_ne0 _ (List.mem_map.mpr ⟨(j, i), q, rfl⟩))
set_option maxRecDepth 100000 in
theorem xg_cs0 : [4, 5].map (fun i => xgn[i]?) = ([Cond.eq (.static "java/lang/String" "COMPACT_STRINGS" "Z") (.int 1), Cond.isRef (.static "jdk/internal/util/Preconditions" "SIOOBE_FORMATTER" "Ljava/util/function/BiFunction;")] : List Cond).map some := by decide +kernel
theorem xg_cs : (Cond.eq (.static "java/lang/String" "COMPACT_STRINGS" "Z") (.int 1)) ∈ xgn ∧ (Cond.isRef (.static "jdk/internal/util/Preconditions" "SIOOBE_FORMATTER" "Ljava/util/function/BiFunction;")) ∈ xgn := ⟨xgin xg_cs0 _ (List.mem_of_getElem? (i := 0) rfl), xgin xg_cs0 _ (List.mem_of_getElem? (i := 1) rfl)⟩
set_option maxRecDepth 100000 in
theorem xt_ls0 : [606, 622].map (fun i => tables_1[i]?) = ([Cond.laysStatic "java/lang/String" "COMPACT_STRINGS" "Z", Cond.laysStatic "jdk/internal/util/Preconditions" "SIOOBE_FORMATTER" "Ljava/util/function/BiFunction;"] : List Cond).map some := by decide +kernel
theorem xt_ls : (Cond.laysStatic "java/lang/String" "COMPACT_STRINGS" "Z") ∈ tables_1 ∧ (Cond.laysStatic "jdk/internal/util/Preconditions" "SIOOBE_FORMATTER" "Ljava/util/function/BiFunction;") ∈ tables_1 := ⟨xin_of xt_ls0 _ (List.mem_of_getElem? (i := 0) rfl), xin_of xt_ls0 _ (List.mem_of_getElem? (i := 1) rfl)⟩
set_option maxRecDepth 100000 in
theorem xt_sr0 : [35, 574, 575, 811, 812, 1674, 1693].map (fun i => tables_1[i]?) = ((List.range 7).map fun i => Cond.stringRef (xsR.getD i ("", 0, "")).1 (xsR.getD i ("", 0, "")).2.1 (xsR.getD i ("", 0, "")).2.2).map some := by decide +kernel
theorem xt_sr : ∀ i, i < 7 → (Cond.stringRef (xsR.getD i ("", 0, "")).1 (xsR.getD i ("", 0, "")).2.1 (xsR.getD i ("", 0, "")).2.2) ∈ tables_1 := fun i hi => xin_of xt_sr0 _ (List.mem_map.mpr ⟨i, List.mem_range.mpr hi, rfl⟩)
set_option maxRecDepth 100000 in
theorem xt_ns0 : [31, 94, 112, 177, 212, 278, 284, 342, 345, 350, 394].map (fun i => tables_1[i]?) = (xnest.map fun q => Cond.methodLinkNest q.1 q.2.1 q.2.2.1 q.2.2.2).map some := by decide +kernel
theorem xt_ns : ∀ q ∈ xnest, (Cond.methodLinkNest q.1 q.2.1 q.2.2.1 q.2.2.2) ∈ tables_1 := fun q hq => xin_of xt_ns0 _ (List.mem_map.mpr ⟨q, hq, rfl⟩)
theorem xcl_out {c : Nat} (h : 11 ≤ c) : xcl[c]? = none := List.getElem?_eq_none h
theorem xarr_of {s : State} {args : Array Value} (hts : ∀ w ∈ xws, w.before args s = true) : ∃ cA : Nat → ClassId, ∀ e, e < 4 → ArrOfT s (cA e) (xty e) ∧ va_RA s (cA e) (xty e) := by
  have h : ∀ e, ∃ cA : ClassId, e < 4 → ArrOfT s cA (xty e) ∧ va_RA s cA (xty e) := by
    intro e
    by_cases he : e < 4
    · obtain ⟨cB, kB, comp, h1, h2, h3⟩ := Cond.arrayClass_spec (hts _ (xarc_in he))
      refine ⟨cB, fun _ => ⟨fun n z => ⟨fun k h => (by cases h), kB, h2, comp, h3⟩, ?_⟩⟩
      match e, he, h1 with
      | 0, _, h1 => exact h1
      | 1, _, h1 => exact h1
      | 2, _, h1 => exact h1
      | 3, _, h1 => exact h1
    · exact ⟨0, fun q => absurd q he⟩
  exact ⟨fun e => Classical.choose (h e), fun e he => Classical.choose_spec (h e) he⟩
theorem xdc_of {s : State} {args : Array Value} (hts : ∀ w ∈ xws, w.before args s = true) : ∃ D : va_G, ∀ (c : Nat) (q : vw_C), xcl[c]? = some q → u_Kn s q.1 q.2.1 q.2.2 (D.1 c) (D.2 c) := by
  have h : ∀ a, ∃ D : ClassId × (Nat → Nat), a < 11 → u_Kn s (xown a) (xTT a) (xnf a) D.1 D.2 := by
    intro a
    by_cases ha : a < 11
    · obtain ⟨cC, iS, hk⟩ := u_known hts (xCl_of ha).2.1 (hts _ (xins_in ha))
      exact ⟨(cC, iS), fun _ => hk⟩
    · exact ⟨(0, fun _ => 0), fun q => absurd q ha⟩
  refine ⟨(fun a => (Classical.choose (h a)).1, fun a => (Classical.choose (h a)).2), fun c q hq => ?_⟩
  by_cases hc : c < 11
  · have e := (xCl_of hc).1
    rw [e] at hq
    cases hq
    exact Classical.choose_spec (h c) hc
  · rw [xcl_out (by omega)] at hq
    cases hq
set_option maxHeartbeats 4000000 in
theorem xfacts {p : Program} {s : State} {m : MethodId} {meth : Method} {c : Code} {b L : Nat} {xs : Nat → Int32} (hL : L ≤ 3072) (C0 : lw_At p s m meth c b L xs) :
    ∃ g : xG, gb g + 1 = s.heap.size ∧ gs g = b ∧ xF g ((List.range L).map fun j => (xs j).toInt) s s.heap ∧ xNs s ∧ ∀ w ∈ xws, w.before #[Value.ref b] s = true := by
  obtain ⟨hx, hb, hr, hml, hown, hts0, hX, hbl, hlk, hgv⟩ := C0
  have hts : ∀ w ∈ xws, w.before #[Value.ref b] s = true := fun w hw => hts0 w (List.mem_filter.mp hw).1
  have htb : ∀ w ∈ tables_1, w.before #[Value.ref b] s = true := fun w hw => hts0 w (xin_tbl hw)
  have hg := flat_of_before _ hgv
  obtain ⟨D, hD⟩ := xdc_of hts
  obtain ⟨cA, hcA⟩ := xarr_of hts
  have hA : ∀ a : Nat, a < s.heap.size → ¬ (fun q => (s.heap.size - 1) + 1 ≤ q) a := fun a h q => by have q : (s.heap.size - 1) + 1 ≤ a := q; omega
  obtain ⟨adK, adV, hS, hev⟩ := vk_Sof (args := #[Value.ref b]) (s := s) (N := 7) (tm := xtm) (len := xsLen) (byt := xsByt) (A := fun q => (s.heap.size - 1) + 1 ≤ q) (by decide) (fun i hi => hg _ (xg_ex i hi)) (fun i hi => hg _ (xg_co i hi)) (fun i hi => hg _ (xg_ar i hi)) (fun i hi => hg _ (xg_le i hi)) (fun i hi j hj => hg _ (xg_el i hi j hj)) (fun i j hi hj hij => (xg_ne i hi j hj hij).imp (hg _) (hg _)) hA
  have hcs : (Term.static "java/lang/String" "COMPACT_STRINGS" "Z").eval #[Value.ref b] s none [] s = some (.int 1) := Cond.eq_int (hg _ xg_cs.1) rfl
  have hZc := va_Zof (A := fun q => (s.heap.size - 1) + 1 ≤ q) (htb _ xt_ls.1) (hts _ (xini_in (c := 15) (by decide))) hcs hA
  have hZq := va_Zqof (A := fun q => (s.heap.size - 1) + 1 ≤ q) (htb _ xt_ls.2) (hts _ (xini_in (c := 17) (by decide))) (hg _ xg_cs.2) hA
  obtain ⟨fm, hZf, hfm⟩ : ∃ fm : Value, va_Z "jdk/internal/util/Preconditions" "SIOOBE_FORMATTER" "Ljava/util/function/BiFunction;" fm (fun q => (s.heap.size - 1) + 1 ≤ q) s s.heap ∧ (fm = .null ∨ ∃ a, fm = .ref a) := by
    rcases hZq with h | ⟨t, h⟩
    · exact ⟨_, h, Or.inl rfl⟩
    · exact ⟨_, h, Or.inr ⟨t, rfl⟩⟩
  have hlen : ((List.range L).map fun j => (xs j).toInt).length = L := by simp
  refine ⟨(D, cA, s.heap.size - 1, adK, adV, b, fm), by show s.heap.size - 1 + 1 = _; omega, rfl, ⟨⟨hD, fun k q hk => ?_⟩, hS, fun j hj => vk_R.of (htb _ (xt_sr j hj)) (hev j hj), ⟨xs, by rw [hlen]; exact hX, fun j hj => ?_⟩, by show b < s.heap.size - 1 + 1; omega, by show s.heap.size - 1 + 1 ≤ _; omega, by rw [hlen]; omega, hZc, hZf, hfm⟩, fun q hq => va_Nw.of rfl (htb _ (xt_ns q hq)), hts⟩
  · match k, hk with
    | 0, hk => cases hk; exact hcA 0 (by decide)
    | 1, hk => cases hk; exact hcA 1 (by decide)
    | 2, hk => cases hk; exact hcA 2 (by decide)
    | 3, hk => cases hk; exact hcA 3 (by decide)
    | n + 4, hk => cases hk
  · rw [hlen] at hj
    rw [List.getD_eq_getElem?_getD, List.getElem?_map, List.getElem?_range hj]
    rfl
