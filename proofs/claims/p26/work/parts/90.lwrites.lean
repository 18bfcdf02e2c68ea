/-! THE LAW OVER THE PURE STATE: cells of the script, texts -/
theorem jAnd_rg {m : Int} (m0 : 0 ≤ m) (m1 : m ≤ 2147483647) (x : Int) : 0 ≤ jAnd x m ∧ jAnd x m ≤ m := by
  have hb : (jI m).toBitVec.toNat = m.toNat := by
    show (BitVec.ofInt 32 m).toNat = m.toNat
    rw [BitVec.toNat_ofInt]
    omega
  have hn : ((jI x &&& jI m).toBitVec).toNat ≤ m.toNat := by
    show ((jI x).toBitVec &&& (jI m).toBitVec).toNat ≤ _
    rw [BitVec.toNat_and, hb]
    exact Nat.and_le_right
  have ht : ((jI x &&& jI m).toBitVec).toInt = (((jI x &&& jI m).toBitVec).toNat : Int) := BitVec.toInt_eq_toNat_of_lt (by omega)
  have e : jAnd x m = ((jI x &&& jI m).toBitVec).toInt := rfl
  rw [e, ht]
  omega
def cel (sl : Int) (sx : Int → Int) (k : Int) : Int := jAnd (if sl ≤ k then 15486167 * k + 1709 else sx k) 2147483647
theorem cel_rg (sl : Int) (sx : Int → Int) (k : Int) : 0 ≤ cel sl sx k ∧ cel sl sx k ≤ 2147483647 := jAnd_rg (by omega) (by omega) _
theorem cell_sp {sl : Int} {sx : Int → Int} {k : Int} {s : Sg} {Q : Int → Prop} (k0 : 0 ≤ k) (hQ : Q (cel sl sx k)) : wp_L_cell sl sx k s Q := by
  unfold cel at hQ
  refine ⟨fun z => ?_, fun z => ⟨k0, by omega, ?_⟩⟩
  · rw [if_pos z] at hQ; exact hQ
  · rw [if_neg z] at hQ; exact hQ
theorem tmod_rg {x m : Int} (x0 : 0 ≤ x) (m0 : 0 < m) : 0 ≤ Int.tmod x m ∧ Int.tmod x m < m := by
  rw [Int.tmod_eq_emod_of_nonneg x0]
  exact ⟨Int.emod_nonneg _ (by omega), Int.emod_lt_of_pos _ m0⟩
/-- one more byte is typed -/
def tyW (W : Wd) (x : Int) : Wd := mkW W.A (W.tb + 1) (upF W.B W.tb x) W.hn W.H
/-- all but the text is the same -/
def smW (W W' : Wd) : Prop := W'.A = W.A ∧ W'.hn = W.hn ∧ W'.H = W.H
def txt (W : Wd) (n : Int) : Prop := W.tb ≤ n ∧ ∀ k, 0 ≤ k → k < W.tb → W.B k = 32 → 0 < k ∧ W.B (k - 1) ≠ 32
def nbl (W : Wd) : Prop := 0 < W.tb ∧ W.B (W.tb - 1) ≠ 32
theorem txt_ty {W : Wd} {n x : Int} (h : txt W n) (hx : x ≠ 32 ∨ nbl W) : txt (tyW W x) (n + 1) := by
  refine ⟨by have := h.1; show W.tb + 1 ≤ n + 1; omega, fun k k0 k1 hk => ?_⟩
  have k1 : k < W.tb + 1 := k1
  have hk : upF W.B W.tb x k = 32 := hk
  show 0 < k ∧ upF W.B W.tb x (k - 1) ≠ 32
  unfold upF at hk ⊢
  by_cases e : k = W.tb
  · rw [if_pos e] at hk
    rcases hx with hx | ⟨g1, g2⟩
    · exact absurd hk hx
    · rw [if_neg (by omega), e]
      exact ⟨g1, g2⟩
  · rw [if_neg e] at hk
    rw [if_neg (by omega)]
    exact h.2 k k0 (by omega) hk
theorem nbl_ty {W : Wd} {x : Int} (h0 : 0 ≤ W.tb) (hx : x ≠ 32) : nbl (tyW W x) := by
  refine ⟨by show 0 < W.tb + 1; omega, ?_⟩
  show upF W.B W.tb x (W.tb + 1 - 1) ≠ 32
  unfold upF
  rw [if_pos (by omega)]
  exact hx
theorem wbG_none {n : Int} {B : Int → Int} : ∀ (m : Nat) (k : Int), (∀ j, k ≤ j → j < k + m → ¬ (B j = 32 ∧ (j = 0 ∨ j = n - 1 ∨ B (j - 1) = 32))) → wbG n B m k = -9 := by
  intro m
  induction m with
  | zero => intro k _; rfl
  | succ m ih =>
    intro k hk
    rw [wbG, if_neg (hk k (Int.le_refl _) (by omega))]
    exact ih (k + 1) (fun j j0 j1 => hk j (by omega) (by omega))
theorem txt_wb {W : Wd} {n : Int} (h : txt W n) (hb : nbl W) : wbQ W = -9 := by
  refine wbG_none W.tb.toNat 0 (fun j j0 j1 hj => ?_)
  have g := h.2 j j0 (by omega) hj.1
  rcases hj.2 with e | e | e
  · omega
  · have := hb.2
    rw [← e] at this
    exact this hj.1
  · exact g.2 e
section LAW1
variable {c : Sg} {W : Wd}
theorem typ_sp {x : Int} (h : ClC c W) (hI : InvW W) (x0 : 32 ≤ x) (x1 : x ≤ 126) (ht : W.tb < 40) {Q : Int → Sg → Prop} (hQ : ∀ c', ClC c' (tyW W x) → InvW (tyW W x) → Q (W.tb + 1) c') : wp_X9_type x c Q := by
  have e : typeS W x = mkR (W.tb + 1) (tyW W x) := by
    unfold typeS
    rw [if_neg (by omega), if_neg (by omega)]
    rfl
  have hi := inv_type hI x
  rw [e] at hi
  refine c_type h hI (fun c' hc => ?_)
  rw [e] at hc ⊢
  exact hQ c' hc hi
theorem writes_sp {v : Int} (v0 : 0 ≤ v) (h : ClC c W) (hI : InvW W) {Q : Int → Sg → Prop} (hQ : ∀ c' W', ClC c' W' → InvW W' → smW W W' → W'.tb ≠ 0 → wbQ W' = -9 → Q 1 c') : wp_L_writes v c Q := by
  have t0 := hI.2.1.1
  refine c_clear h hI (fun c1 h1 => ⟨fun z => by have z : W.tb < 0 := z; omega, fun _ => ?_⟩)
  have hm := tmod_rg (m := 6) v0 (by omega)
  intro x3 e3
  refine ⟨rgO (by omega) (by omega), fun P hP => ?_⟩
  have hW0 : InvW (clearS W).W := inv_clear hI
  refine lq3 (P := P) (fun _ x4 _ => (x3 - x4).toNat) (fun x2 x4 t => x2 = 1 ∧ 0 ≤ x4 ∧ x4 ≤ x3 ∧ ∃ W', ClC t W' ∧ InvW W' ∧ smW W W' ∧ txt W' (6 * x4) ∧ (0 < x4 → nbl W')) ?_ 1 0 c1 ⟨rfl, by omega, by omega, (clearS W).W, h1, hW0, ⟨rfl, rfl, rfl⟩, ⟨by show (0 : Int) ≤ 6 * 0; omega, fun k k0 k1 => by have k1 : k < 0 := k1; omega⟩, fun z => absurd z (by omega)⟩
  rintro x2 x4 t ⟨rfl, w0, w1, W1, hc, hi, hs, ht, hn⟩ ih
  refine hP 1 x4 t ⟨fun z => ⟨Or.inr rfl, hQ t W1 hc hi hs (by have := (hn (by omega)).1; omega) (txt_wb ht (hn (by omega)))⟩, fun z => ?_⟩
  intro x5 e5
  have hz := jAnd_rg (m := 3) (by omega) (by omega) (jShr v (3 + 4 * x4))
  refine ⟨rgO (by omega) (by omega), fun y => absurd y (by decide), fun _ => ?_⟩
  -- behind a word
  have fin : ∀ t' W', ClC t' W' → InvW W' → smW W W' → txt W' (6 * (x4 + 1)) → nbl W' → wj_L_writes_153 P v x3 x4 t' Q := fun t' W' a1 a2 a3 a4 a5 => ⟨rgO (by omega) (by omega), ih 1 (x4 + 1) t' ⟨rfl, by omega, by omega, W', a1, a2, a3, a4, fun _ => a5⟩ (by omega)⟩
  have letters : ∀ t' W', ClC t' W' → InvW W' → smW W W' → txt W' (6 * x4 + 1) → wj_L_writes_61 P v x3 x4 x5 t' Q := fun t' W' a1 a2 a3 a4 => by
    intro P2 hP2
    refine lq3 (P := P2) (fun _ x6 _ => (x5 - x6).toNat) (fun x2 x6 t => x2 = 1 ∧ 0 ≤ x6 ∧ x6 ≤ x5 ∧ ∃ W', ClC t W' ∧ InvW W' ∧ smW W W' ∧ txt W' (6 * x4 + 1 + x6) ∧ (0 < x6 → nbl W')) ?_ 1 0 t' ⟨rfl, by omega, by omega, W', a1, a2, a3, ⟨by have := a4.1; omega, a4.2⟩, fun z => absurd z (by omega)⟩
    rintro x2 x6 u ⟨rfl, u0, u1, W2, b1, b2, b3, b4, b5⟩ ih2
    have tb0 := b2.2.1.1
    have tb1 := b4.1
    refine hP2 1 x6 u ⟨fun y => ⟨fun q => absurd q (by decide), fun _ => ⟨fun _ => fin u W2 b1 b2 b3 ⟨by omega, b4.2⟩ (b5 (by omega)), fun _ => ?_⟩⟩, fun y => ⟨fun q => absurd q (by decide), fun _ => ?_⟩⟩
    · have last : ∀ x, 32 < x → x ≤ 126 → wj_L_writes_147 P v x3 x4 x u Q := fun x q0 q1 => by
        refine typ_sp b1 b2 (by omega) q1 (by omega) (fun u' d1 d2 => ⟨fun q => absurd q (by omega), fun _ => ?_⟩)
        refine fin u' (tyW W2 x) d1 d2 ⟨b3.1, b3.2.1, b3.2.2⟩ ?_ (nbl_ty tb0 (by omega))
        have g := txt_ty (x := x) b4 (Or.inl (by omega))
        exact ⟨by have := g.1; omega, g.2⟩
      exact ⟨fun _ => last 44 (by omega) (by omega), fun _ => last 46 (by omega) (by omega)⟩
    · have hl := jAnd_rg (m := 7) (by omega) (by omega) (jShr v (2 * x4 + x6))
      refine ⟨rgO (by omega) (by omega), typ_sp b1 b2 (by omega) (by omega) (by omega) (fun u' d1 d2 => ⟨fun q => absurd q (by omega), fun _ => ⟨rgO (by omega) (by omega), ?_⟩⟩)⟩
      have g := txt_ty (x := 97 + jAnd (jShr v (2 * x4 + x6)) 7) b4 (Or.inl (by omega))
      exact ih2 1 (x6 + 1) u' ⟨rfl, by omega, by omega, tyW W2 _, d1, d2, ⟨b3.1, b3.2.1, b3.2.2⟩, ⟨by have := g.1; omega, g.2⟩, fun _ => nbl_ty tb0 (by omega)⟩ (by omega)
  refine ⟨fun y => letters t W1 hc hi hs ⟨by have := ht.1; omega, ht.2⟩, fun y => ?_⟩
  have hb := hn (by omega)
  refine typ_sp hc hi (by omega) (by omega) (by have := ht.1; omega) (fun u d1 d2 => ⟨fun q => absurd q (by have := hb.1; omega), fun _ => ?_⟩)
  exact letters u (tyW W1 32) d1 d2 ⟨hs.1, hs.2.1, hs.2.2⟩ (txt_ty ht (Or.inr hb))
end LAW1
