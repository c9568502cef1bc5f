/-! ===== two runs that agree in layers and left over go on alike ===== -/
def Sm12 (h : Nat) (S T : xM) : Prop := S 2 = T 2 ∧ ∀ s, s < 4 → S 1 (4 * h + s) = T 1 (4 * h + s)
def Sm (h : Nat) (S T : xM) : Prop := Sm12 h S T ∧ S 5 = T 5 ∧ S 7 = T 7
/-- the two worlds agree in hour h -/
def WS (h : Nat) (W V : xM) : Prop := (∀ j, j < 13 → W j = V j) ∧ ∀ c, W 13 (48 * c + h) = V 13 (48 * c + h)
theorem snd1_cg {g p : Int} {h s : Nat} (hs : s < 4) {S T : xM} (q : Sm12 h S T) : Sm12 h (snd1 g p h s S) (snd1 g p h s T) := by
  unfold snd1
  by_cases z : g = -1
  · rw [if_pos z, if_pos z]
    refine ⟨by rw [xu_cell _ _ _ (by decide), xu_cell _ _ _ (by decide)]; exact q.1, fun t ht => ?_⟩
    rw [xu_at, xu_at, q.2 s hs, q.2 t ht]
  · rw [if_neg z, if_neg z]
    refine ⟨?_, fun t ht => by rw [xu_cell _ _ _ (by decide), xu_cell _ _ _ (by decide)]; exact q.2 t ht⟩
    funext i
    rw [xu_at, xu_at, q.1]
theorem sndP_cg {gol p : Nat → Int} {h s : Nat} (hs : s < 4) : ∀ (k v : Nat) {S T : xM}, Sm12 h S T → Sm12 h (sndP gol p h s k v S) (sndP gol p h s k v T) := by
  intro k
  induction k with
  | zero => intro v S T q; exact q
  | succ k ih => intro v S T q; exact ih (v + 1) (snd1_cg hs q)
theorem cfn_cg {W V : xM} {h c : Nat} (hw : WS h W V) {S T : xM} (q : Sm h S T) : (∀ i, cFl W h c S i = cFl V h c T i) ∧ (∀ i, cL1 W h c S i = cL1 V h c T i) ∧ (∀ i, cHd W h c S i = cHd V h c T i) ∧ (∀ i, cLf W h c S i = cLf V h c T i) ∧ (∀ i, cL2 W h c S i = cL2 V h c T i) ∧ ∀ i, cOu W h c S i = cOu V h c T i := by
  obtain ⟨⟨q2, -⟩, q5, q7⟩ := q
  have w1 := hw.1 1 (by decide)
  have w2 := hw.1 2 (by decide)
  have w3 := hw.1 3 (by decide)
  have w4 := hw.1 4 (by decide)
  have w9 := hw.1 9 (by decide)
  have w11 := hw.1 11 (by decide)
  have w12 := hw.1 12 (by decide)
  have w13 := hw.2 c
  have a1 : ∀ i, cFl W h c S i = cFl V h c T i := fun i => by unfold cFl; rw [w11, w4, q5]
  have a2 : ∀ i, cL1 W h c S i = cL1 V h c T i := fun i => by unfold cL1; rw [w11, q5]
  have a3 : cIt W h c S = cIt V h c T := by unfold cIt; rw [a2, a2, a2, a2]
  have a4 : ∀ i, cHu W h c S i = cHu V h c T i := fun i => by unfold cHu; rw [w12, w1, a3, w3, w2, w9, w13]
  have a5 : ∀ i, cQ W h c S i = cQ V h c T i := fun i => by unfold cQ; rw [q2, a4, q7]
  have a6 : ∀ i, cHd W h c S i = cHd V h c T i := fun i => by unfold cHd; rw [a5]
  have a7 : ∀ i, cLf W h c S i = cLf V h c T i := fun i => by unfold cLf; rw [a5]
  refine ⟨a1, a2, a6, a7, fun i => ?_, fun i => ?_⟩
  · unfold cL2; rw [w1, a2, a6]
  · unfold cOu; rw [q2, a6, a1]
theorem csnd_cg {W V : xM} {h c : Nat} (hw : WS h W V) {S T : xM} (q : Sm h S T) : ∀ (k s : Nat), s + k ≤ 4 → ∀ {U X : xM}, Sm12 h U X → Sm12 h (csnd W h c S k s U) (csnd V h c T k s X) := by
  intro k
  induction k with
  | zero => intro s _ U X u; exact u
  | succ k ih =>
    intro s hs U X u
    refine ih (s + 1) (by omega) ?_
    unfold cSn
    rw [(cfn_cg hw q).2.2.2.2.2, hw.1 5 (by decide), hw.1 6 (by decide), hw.1 7 (by decide)]
    exact sndP_cg (by omega) _ _ u
theorem cstp_cg {W V : xM} {h c : Nat} (hw : WS h W V) {S T : xM} (q : Sm h S T) : Sm h (cstp W h c S) (cstp V h c T) := by
  obtain ⟨a1, a2, a6, a7, a8, a9⟩ := cfn_cg (c := c) hw q
  have b := csnd_cg (c := c) hw q 4 0 (by decide) q.1
  refine ⟨⟨?_, fun s hs => ?_⟩, ?_, ?_⟩
  · funext i
    unfold cstp
    rw [if_pos (Or.inr rfl), if_pos (Or.inr rfl), b.1]
  · unfold cstp
    rw [if_pos (Or.inl rfl), if_pos (Or.inl rfl), b.2 s hs]
  · funext i
    have e : ∀ W S, cstp W h c S 5 i = if 4 * c ≤ i ∧ i < 4 * c + 4 then cL2 W h c S i else S 5 i := fun W S => rfl
    rw [e, e, a8, q.2.1]
  · funext i
    have e : ∀ W S, cstp W h c S 7 i = if 4 * c ≤ i ∧ i < 4 * c + 4 then cLf W h c S i else S 7 i := fun W S => rfl
    rw [e, e, a7, q.2.2]
theorem csps_cg {W V : xM} {h : Nat} (hw : WS h W V) : ∀ (k c : Nat) {S T : xM}, Sm h S T → Sm h (csps W h k c S) (csps V h k c T) := by
  intro k
  induction k with
  | zero => intro c S T q; exact q
  | succ k ih => intro c S T q; exact ih (c + 1) (cstp_cg hw q)
theorem hstp_cg {W V : xM} {h : Nat} (hw : WS h W V) {S T : xM} (q5 : S 5 = T 5) (q7 : S 7 = T 7) : Sm h (hstp W h S) (hstp V h T) := by
  unfold hstp
  rw [hw.1 0 (by decide)]
  refine csps_cg hw _ _ ⟨⟨?_, fun s hs => ?_⟩, ?_, ?_⟩
  · funext i
    unfold hini dsm
    rw [if_neg (by decide), if_pos rfl, if_neg (by decide), if_pos rfl, hw.1 0 (by decide), hw.1 8 (by decide), hw.1 10 (by decide)]
  · unfold hini
    rw [if_pos rfl, if_pos rfl, if_pos ⟨by omega, by omega⟩, if_pos ⟨by omega, by omega⟩]
  · funext i
    unfold hini
    rw [if_neg (by decide), if_neg (by decide), if_neg (by decide), if_neg (by decide), q5]
  · funext i
    unfold hini
    rw [if_neg (by decide), if_neg (by decide), if_neg (by decide), if_neg (by decide), q7]
/-- worlds that agree in the hours ahead of n: the same layers, and the same goes up -/
theorem sim_cg {W V : xM} : ∀ n, (∀ h, h < n → WS h W V) → (sim W n 5 = sim V n 5 ∧ sim W n 7 = sim V n 7) ∧ ∀ k, n = k + 1 → ∀ s, s < 4 → sim W n 1 (4 * k + s) = sim V n 1 (4 * k + s) := by
  intro n
  induction n with
  | zero => intro _; exact ⟨⟨rfl, rfl⟩, fun k hk => by omega⟩
  | succ n ih =>
    intro hw
    obtain ⟨⟨i5, i7⟩, -⟩ := ih fun h hh => hw h (by omega)
    have q := hstp_cg (hw n (by omega)) i5 i7
    refine ⟨⟨q.2.1, q.2.2⟩, fun k hk s hs => ?_⟩
    have e : n = k := by omega
    rw [← e]
    exact q.1.2 s hs
/-- a hole of much g at cleaner c0 from hour h0 on -/
def xhH (c0 h0 : Nat) (g : Int) : Nat → Int := fun i => if i / 48 = c0 ∧ h0 ≤ i % 48 then g else 0
theorem xhH_at {c0 h0 c h : Nat} {g : Int} (hh : h < 48) : xhH c0 h0 g (48 * c + h) = if c = c0 ∧ h0 ≤ h then g else 0 := by
  unfold xhH
  rw [show (48 * c + h) / 48 = c by omega, show (48 * c + h) % 48 = h by omega]
theorem WS_hole {p : Nat} {M : xM} {c0 h0 h : Nat} {g : Int} (hh : h < h0) (h48 : h < 48) : WS h (wld p M z0 (xhH c0 h0 g)) (w0 p M) := by
  refine ⟨fun j hj => ?_, fun c => ?_⟩
  · funext i
    unfold w0 wld
    repeat' split
    all_goals first | rfl | omega
  · show hoF M _ _ _ + xhH c0 h0 g (48 * c + h) = hoF M _ _ _ + z0 (48 * c + h)
    rw [xhH_at h48, if_neg (by omega)]
    rfl
theorem WH_ho {p : Nat} {M : xM} (q : WB p M) {c0 : Nat} (hc0 : M (p + 3) c0 = 2) (h0 : Nat) {g : Int} (hg : 0 ≤ g ∧ g ≤ 100) {h : Nat} (hh : h < 48) : WH (wld p M z0 (xhH c0 h0 g)) h := WH_wld q.1 q.2.1 q.2.2.1 q.2.2.2.1 hh (fun _ => Or.inl rfl) fun c _ => by
  rw [xhH_at hh]
  by_cases z : c = c0 ∧ h0 ≤ h
  · rw [if_pos z]
    exact ⟨hg.1, hg.2, fun y => absurd (z.1 ▸ hc0) y⟩
  · rw [if_neg z]
    exact ⟨Int.le_refl 0, by decide, fun _ => rfl⟩
