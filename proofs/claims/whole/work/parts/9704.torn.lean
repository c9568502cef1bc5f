/-! ===== torn: what fits ===== -/
/-- hour H: what went up is near what would go up in the world W -/
def okh (fs : Nat) (row : Nat → Int) (sp : Int) (W : xM) (H : Nat) : Prop := H < fs ∨ (¬ row (H - fs) < upV (sim W (H + 1)) H (-1) - sp ∧ ¬ upV (sim W (H + 1)) H (-1) + sp < row (H - fs))
/-- a hole in cloth c from hour h on, of 10 * g + 10, fits -/
def EP (pn fs la : Nat) (row : Nat → Int) (sp : Int) (M : xM) (c h g : Nat) : Prop := (c : Int) < M pn 0 ∧ M (pn + 3) c = 2 ∧ h ≤ la ∧ g < 10 ∧ ∀ H, H ≤ la → okh fs row sp (wld pn M z0 (xhH c h ((10 * g + 10 : Nat) : Int))) H
theorem EP_cg {pn fs la : Nat} {row : Nat → Int} {sp : Int} {M N : xM} (h1 : ∀ k, k < 12 → N (pn + k) = M (pn + k)) (h2 : ∀ x, 49 ≤ x → x < 58 → N x = M x) (h3 : ∀ k, k ≠ 13 → N 48 k = M 48 k) : EP pn fs la row sp N = EP pn fs la row sp M := by
  funext c h g
  unfold EP
  have e0 : N pn = M pn := h1 0 (by decide)
  rw [e0, h1 3 (by decide), wld_cg h1 h2 h3]
/-- the least hole that fits, among those that V has -/
def LX (c h g a b d : Nat) : Prop := c < a ∨ (c = a ∧ (h < b ∨ (h = b ∧ g ≤ d)))
def TI (E V : Nat → Nat → Nat → Prop) (no : Prop) (cl ho mu : Int) : Prop := (no ∧ ∀ a b d, V a b d → ¬ E a b d) ∨ (¬ no ∧ ∃ c h g : Nat, V c h g ∧ E c h g ∧ cl = (c : Int) ∧ ho = (h : Int) ∧ mu = ((10 * g + 10 : Nat) : Int) ∧ ∀ a b d, V a b d → E a b d → LX c h g a b d)
theorem TI.cg {E V V' : Nat → Nat → Nat → Prop} {no : Prop} {cl ho mu : Int} (q : TI E V no cl ho mu) (hv : ∀ a b d, E a b d → (V a b d ↔ V' a b d)) : TI E V' no cl ho mu := by
  rcases q with ⟨q1, q2⟩ | ⟨q1, c, h, g, q2, q3, q4, q5, q6, q7⟩
  · exact Or.inl ⟨q1, fun a b d v e => q2 a b d ((hv a b d e).2 v) e⟩
  · exact Or.inr ⟨q1, c, h, g, (hv c h g q3).1 q2, q3, q4, q5, q6, fun a b d v e => q7 a b d ((hv a b d e).2 v) e⟩
theorem TI.skip {E V V' : Nat → Nat → Nat → Prop} {no : Prop} {cl ho mu : Int} {c h g : Nat} (q : TI E V no cl ho mu) (hv : ∀ a b d, V' a b d ↔ V a b d ∨ (a = c ∧ b = h ∧ d = g)) (he : ¬ E c h g) : TI E V' no cl ho mu := by
  refine q.cg fun a b d e => ?_
  rw [hv]
  refine ⟨Or.inl, fun y => y.elim id ?_⟩
  rintro ⟨rfl, rfl, rfl⟩
  exact absurd e he
/-- behind the one found: taken -/
theorem TI.take {E V V' : Nat → Nat → Nat → Prop} {no no' : Prop} {cl ho mu : Int} {c h g : Nat} (q : TI E V no cl ho mu) (hv : ∀ a b d, V' a b d ↔ V a b d ∨ (a = c ∧ b = h ∧ d = g)) (he : E c h g) (hn : no ∨ (c : Int) < cl) (hn' : ¬ no') : TI E V' no' (c : Int) (h : Int) ((10 * g + 10 : Nat) : Int) := by
  refine Or.inr ⟨hn', c, h, g, (hv c h g).2 (Or.inr ⟨rfl, rfl, rfl⟩), he, rfl, rfl, rfl, fun a b d v e => ?_⟩
  rcases (hv a b d).1 v with v | ⟨rfl, rfl, rfl⟩
  · rcases q with ⟨q1, q2⟩ | ⟨q1, c1, h1, g1, q2, q3, q4, q5, q6, q7⟩
    · exact absurd e (q2 a b d v)
    · have lt : (c : Int) < cl := hn.elim (fun y => absurd y q1) id
      have := q7 a b d v e
      unfold LX at this ⊢
      omega
  · unfold LX
    omega
/-- behind the one found: kept -/
theorem TI.keep {E V V' : Nat → Nat → Nat → Prop} {no no' : Prop} {cl ho mu : Int} {c h g : Nat} (q : TI E V no cl ho mu) (hv : ∀ a b d, V' a b d ↔ V a b d ∨ (a = c ∧ b = h ∧ d = g)) (hn : ¬ no) (hn' : ¬ no') (hk : ∀ c1 h1 g1 : Nat, V c1 h1 g1 → cl = (c1 : Int) → LX c1 h1 g1 c h g) : TI E V' no' cl ho mu := by
  rcases q with ⟨q1, q2⟩ | ⟨q1, c1, h1, g1, q2, q3, q4, q5, q6, q7⟩
  · exact absurd q1 hn
  · refine Or.inr ⟨hn', c1, h1, g1, (hv _ _ _).2 (Or.inl q2), q3, q4, q5, q6, fun a b d v e => ?_⟩
    rcases (hv a b d).1 v with v | ⟨rfl, rfl, rfl⟩
    · exact q7 a b d v e
    · exact hk c1 h1 g1 q2 q4
/-- what the class has tried when it stands at (h, c, g) -/
def VC (h c g : Nat) : Nat → Nat → Nat → Prop := fun a b d => b < h ∨ (b = h ∧ (a < c ∨ (a = c ∧ d < g)))
theorem VC_st (h c g a b d : Nat) : VC h c (g + 1) a b d ↔ VC h c g a b d ∨ (a = c ∧ b = h ∧ d = g) := by
  unfold VC
  omega
/-- what the model has tried when it stands at (c, h, g) -/
def VM (c h g : Nat) : Nat → Nat → Nat → Prop := fun a b d => a < c ∨ (a = c ∧ (b < h ∨ (b = h ∧ d < g)))
theorem VM_st (h c g a b d : Nat) : VM c h (g + 1) a b d ↔ VM c h g a b d ∨ (a = c ∧ b = h ∧ d = g) := by
  unfold VM
  omega
noncomputable def e1 (E : Nat → Nat → Nat → Prop) (c h g : Nat) : Int := @ite _ (E c h g) (Classical.propDecidable _) 1 0
theorem e1_pos {E : Nat → Nat → Nat → Prop} {c h g : Nat} (q : E c h g) : e1 E c h g = 1 := by unfold e1; rw [if_pos q]
theorem e1_neg {E : Nat → Nat → Nat → Prop} {c h g : Nat} (q : ¬ E c h g) : e1 E c h g = 0 := by unfold e1; rw [if_neg q]
theorem e1_in (E : Nat → Nat → Nat → Prop) (c h g : Nat) : 0 ≤ e1 E c h g ∧ e1 E c h g ≤ 1 := by
  by_cases z : E c h g
  · rw [e1_pos z]; decide
  · rw [e1_neg z]; decide
theorem sumN_le {f : Nat → Int} {b : Int} (hf : ∀ i, 0 ≤ f i ∧ f i ≤ b) : ∀ k : Nat, 0 ≤ sumN f k ∧ sumN f k ≤ b * k := by
  intro k
  induction k with
  | zero => exact ⟨Int.le_refl 0, by show (0 : Int) ≤ b * (0 : Nat); rw [Int.natCast_zero, Int.mul_zero]; exact Int.le_refl 0⟩
  | succ k ih =>
    have := hf k
    have e : b * ((k + 1 : Nat) : Int) = b * (k : Int) + b := by rw [Int.natCast_succ, Int.mul_add, Int.mul_one]
    show 0 ≤ sumN f k + f k ∧ sumN f k + f k ≤ _
    rw [e]
    omega
theorem sumN_z {f : Nat → Int} : ∀ k, (∀ i, i < k → f i = 0) → sumN f k = 0 := by
  intro k
  induction k with
  | zero => intro _; rfl
  | succ k ih =>
    intro h
    show sumN f k + f k = 0
    rw [ih fun i hi => h i (by omega), h k (by omega)]
    rfl
theorem sumN_more {f : Nat → Int} {h : Nat} : ∀ k, (∀ i, h ≤ i → i < h + k → f i = 0) → sumN f (h + k) = sumN f h := by
  intro k
  induction k with
  | zero => intro _; rfl
  | succ k ih =>
    intro hz
    show sumN f (h + k) + f (h + k) = _
    rw [ih fun i h1 h2 => hz i h1 (by omega), hz (h + k) (by omega) (by omega), Int.add_zero]
theorem sumN_add (f g : Nat → Int) : ∀ k, sumN (fun i => f i + g i) k = sumN f k + sumN g k := by
  intro k
  induction k with
  | zero => rfl
  | succ k ih =>
    show sumN (fun i => f i + g i) k + (f k + g k) = sumN f k + f k + (sumN g k + g k)
    rw [ih]
    omega
theorem sumN_swap (F : Nat → Nat → Int) (n : Nat) : ∀ m, sumN (fun i => sumN (fun j => F i j) n) m = sumN (fun j => sumN (fun i => F i j) m) n := by
  intro m
  induction m with
  | zero => exact (sumN_z n fun i _ => rfl).symm
  | succ m ih =>
    have e : (fun j => sumN (fun i => F i j) (m + 1)) = fun j => sumN (fun i => F i j) m + F m j := rfl
    rw [e, sumN_add, ← ih]
    rfl
/-- how many of cloth c and hour h fit -/
noncomputable def cG (E : Nat → Nat → Nat → Prop) (c h : Nat) : Int := sumN (e1 E c h) 10
theorem cG_in (E : Nat → Nat → Nat → Prop) (c h : Nat) : 0 ≤ cG E c h ∧ cG E c h ≤ 10 := by
  have := sumN_le (e1_in E c h) 10
  unfold cG
  omega
theorem upOf_eq2 {R : xR} {b : Nat} (hF : FlR R b) {H : Nat} (hH : H < 48) {M S : xM} (hA : ∀ s, s < 4 → M (b + 1) (4 * H + s) = S 1 (4 * H + s)) (hS : ∀ s, s < 4 → 0 ≤ S 1 (4 * H + s) ∧ S 1 (4 * H + s) ≤ 1919808) : f_F_upOf R b (H : Int) (-1) M = some (upV S H (-1)) := by
  have r1 := hF.1
  have x26 : xan 26 = 192 := by decide +kernel
  have s0 : 0 ≤ S 1 (4 * H) ∧ S 1 (4 * H) ≤ 1919808 := hS 0 (by omega)
  have s1 := hS 1 (by omega)
  have s2 := hS 2 (by omega)
  have s3 := hS 3 (by omega)
  have a0 : M (b + 1) (4 * H) = S 1 (4 * H) := hA 0 (by omega)
  unfold f_F_upOf upV
  rw [r1, if_pos rfl, if_pos rfl, w32_of (x := (H : Int) * 4) (by omega) (by omega), show (H : Int) * 4 = ((4 * H : Nat) : Int) by omega, sumOf_eq (by omega) (by omega), xb1_some, a0, hA 1 (by omega), hA 2 (by omega), hA 3 (by omega), w32_of (x := 0 + S 1 (4 * H)) (by omega) (by omega), w32_of (x := 0 + S 1 (4 * H) + S 1 (4 * H + 1)) (by omega) (by omega), w32_of (x := 0 + S 1 (4 * H) + S 1 (4 * H + 1) + S 1 (4 * H + 2)) (by omega) (by omega), w32_of (by omega) (by omega)]
  exact congrArg some (by omega)
theorem upV_in {W : xM} {H : Nat} (hH : H < 48) (hW : ∀ j, j < 48 → WH W j) : 0 ≤ upV (sim W (H + 1)) H (-1) ∧ upV (sim W (H + 1)) H (-1) ≤ 7679232 := by
  have b : ∀ i, i < 4 * H + 4 → 0 ≤ sim W (H + 1) 1 i ∧ sim W (H + 1) 1 i ≤ 1919808 := fun i hi => sim_up_in (by omega) (fun j hj => hW j (by omega)) (by omega)
  have b0 := b (4 * H) (by omega)
  have b1 := b (4 * H + 1) (by omega)
  have b2 := b (4 * H + 2) (by omega)
  have b3 := b (4 * H + 3) (by omega)
  unfold upV
  rw [if_pos rfl]
  omega
theorem near_eq {R : xR} {pn ps ln ls : Nat} (hR : RG R pn ps ln ls) {b : Nat} (hF : FlR R b) {N W : xM} {H fs la : Nat} {row : Nat → Int} {sp : Int} (h2 : N 78 2 = (fs : Int)) (h4 : N 78 4 = sp) (hsp : 0 ≤ sp ∧ sp ≤ 1000) (h91 : ∀ i, fs + i ≤ la → N 91 i = row i) (hla : la < fs + 24) (hl48 : la < 48) (hH : H ≤ la) (hA : ∀ s, s < 4 → N (b + 1) (4 * H + s) = sim W (H + 1) 1 (4 * H + s)) (hW : ∀ j, j < 48 → WH W j) :
    (okh fs row sp W H → f_H_isNear R 78 b (H : Int) N = some 1) ∧ (¬ okh fs row sp W H → f_H_isNear R 78 b (H : Int) N = some 0) := by
  have r1 : R 78 1 = 91 := by rw [hR.at 78 1 (by decide) (by decide)]; exact xR0_fl.2.2.2.2.1
  have ub := upV_in (W := W) (show H < 48 by omega) hW
  unfold f_H_isNear okh
  rw [h2, h4]
  by_cases z : H < fs
  · rw [if_pos (by omega)]
    exact ⟨fun _ => rfl, fun q => absurd (Or.inl z) q⟩
  · rw [if_neg (by omega), w32_of (x := (H : Int) - (fs : Int)) (by omega) (by omega), xch_pos (by omega), xl_eq, r1, show ((H : Int) - (fs : Int)).toNat = H - fs by omega, h91 _ (by omega), upOf_eq2 hF (S := sim W (H + 1)) (by omega) hA (fun s hs => sim_up_in (by omega) (fun j hj => hW j (by omega)) (by omega)), xb1_some, w64_of (x := upV (sim W (H + 1)) H (-1) - sp) (by omega) (by omega), w64_of (x := upV (sim W (H + 1)) H (-1) + sp) (by omega) (by omega)]
    by_cases y1 : row (H - fs) < upV (sim W (H + 1)) H (-1) - sp
    · rw [if_pos y1]
      exact ⟨fun q => by omega, fun _ => rfl⟩
    · rw [if_neg y1]
      by_cases y2 : upV (sim W (H + 1)) H (-1) + sp < row (H - fs)
      · rw [if_pos y2]
        exact ⟨fun q => by omega, fun _ => rfl⟩
      · rw [if_neg y2]
        exact ⟨fun _ => rfl, fun q => absurd (Or.inr ⟨y1, y2⟩) q⟩
