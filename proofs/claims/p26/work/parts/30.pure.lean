/-! THE PURE PART: loops, frames, sums -/
/-- a loop by a measure that falls -/
theorem lpM {α : Type} {P : α → Prop} (μ : α → Nat) (I : α → Prop) (step : ∀ a, I a → (∀ b, I b → μ b < μ a → P b) → P a) : ∀ a, I a → P a := by
  have key : ∀ n a, μ a < n → I a → P a := by
    intro n
    induction n with
    | zero => intro a h; omega
    | succ n ih =>
      intro a h hI
      exact step a hI (fun b hb hlt => ih b (by omega) hb)
  intro a hI
  exact key (μ a + 1) a (by omega) hI
theorem lq1 {α : Type} {P : α → Prop} (μ : α → Nat) (I : α → Prop) (step : ∀ a, I a → (∀ a', I a' → μ a' < μ a → P a') → P a) : ∀ a, I a → P a := fun a h => lpM (α := α) (P := fun z => P z) (fun z => μ z) (fun z => I z) (fun z hz ih => step z hz (fun a' h' l' => ih a' h' l')) a h
theorem lq2 {α β : Type} {P : α → β → Prop} (μ : α → β → Nat) (I : α → β → Prop) (step : ∀ a b, I a b → (∀ a' b', I a' b' → μ a' b' < μ a b → P a' b') → P a b) : ∀ a b, I a b → P a b := fun a b h => lpM (α := α × β) (P := fun z => P z.1 z.2) (fun z => μ z.1 z.2) (fun z => I z.1 z.2) (fun z hz ih => step z.1 z.2 hz (fun a' b' h' l' => ih (a', b') h' l')) (a, b) h
theorem lq3 {α β γ : Type} {P : α → β → γ → Prop} (μ : α → β → γ → Nat) (I : α → β → γ → Prop) (step : ∀ a b c, I a b c → (∀ a' b' c', I a' b' c' → μ a' b' c' < μ a b c → P a' b' c') → P a b c) : ∀ a b c, I a b c → P a b c := fun a b c h => lpM (α := α × β × γ) (P := fun z => P z.1 z.2.1 z.2.2) (fun z => μ z.1 z.2.1 z.2.2) (fun z => I z.1 z.2.1 z.2.2) (fun z hz ih => step z.1 z.2.1 z.2.2 hz (fun a' b' c' h' l' => ih (a', b', c') h' l')) (a, b, c) h
theorem lq4 {α β γ δ : Type} {P : α → β → γ → δ → Prop} (μ : α → β → γ → δ → Nat) (I : α → β → γ → δ → Prop) (step : ∀ a b c d, I a b c d → (∀ a' b' c' d', I a' b' c' d' → μ a' b' c' d' < μ a b c d → P a' b' c' d') → P a b c d) : ∀ a b c d, I a b c d → P a b c d := fun a b c d h => lpM (α := α × β × γ × δ) (P := fun z => P z.1 z.2.1 z.2.2.1 z.2.2.2) (fun z => μ z.1 z.2.1 z.2.2.1 z.2.2.2) (fun z => I z.1 z.2.1 z.2.2.1 z.2.2.2) (fun z hz ih => step z.1 z.2.1 z.2.2.1 z.2.2.2 hz (fun a' b' c' d' h' l' => ih (a', b', c', d') h' l')) (a, b, c, d) h
theorem lq5 {α β γ δ ε : Type} {P : α → β → γ → δ → ε → Prop} (μ : α → β → γ → δ → ε → Nat) (I : α → β → γ → δ → ε → Prop) (step : ∀ a b c d e, I a b c d e → (∀ a' b' c' d' e', I a' b' c' d' e' → μ a' b' c' d' e' < μ a b c d e → P a' b' c' d' e') → P a b c d e) : ∀ a b c d e, I a b c d e → P a b c d e := fun a b c d e h => lpM (α := α × β × γ × δ × ε) (P := fun z => P z.1 z.2.1 z.2.2.1 z.2.2.2.1 z.2.2.2.2) (fun z => μ z.1 z.2.1 z.2.2.1 z.2.2.2.1 z.2.2.2.2) (fun z => I z.1 z.2.1 z.2.2.1 z.2.2.2.1 z.2.2.2.2) (fun z hz ih => step z.1 z.2.1 z.2.2.1 z.2.2.2.1 z.2.2.2.2 hz (fun a' b' c' d' e' h' l' => ih (a', b', c', d', e') h' l')) (a, b, c, d, e) h
theorem lq6 {α β γ δ ε ζ : Type} {P : α → β → γ → δ → ε → ζ → Prop} (μ : α → β → γ → δ → ε → ζ → Nat) (I : α → β → γ → δ → ε → ζ → Prop) (step : ∀ a b c d e f, I a b c d e f → (∀ a' b' c' d' e' f', I a' b' c' d' e' f' → μ a' b' c' d' e' f' < μ a b c d e f → P a' b' c' d' e' f') → P a b c d e f) : ∀ a b c d e f, I a b c d e f → P a b c d e f := fun a b c d e f h => lpM (α := α × β × γ × δ × ε × ζ) (P := fun z => P z.1 z.2.1 z.2.2.1 z.2.2.2.1 z.2.2.2.2.1 z.2.2.2.2.2) (fun z => μ z.1 z.2.1 z.2.2.1 z.2.2.2.1 z.2.2.2.2.1 z.2.2.2.2.2) (fun z => I z.1 z.2.1 z.2.2.1 z.2.2.2.1 z.2.2.2.2.1 z.2.2.2.2.2) (fun z hz ih => step z.1 z.2.1 z.2.2.1 z.2.2.2.1 z.2.2.2.2.1 z.2.2.2.2.2 hz (fun a' b' c' d' e' f' h' l' => ih (a', b', c', d', e', f') h' l')) (a, b, c, d, e, f) h
theorem rgO {x : Int} (h1 : -2147483648 ≤ x) (h2 : x ≤ 2147483647) : rgI x := ⟨h1, h2⟩
/-- the class's cells from lo to hi - 1 alone have changed -/
def frC (c c' : Sg) (lo hi : Nat) : Prop := (∀ a, (a < lo ∨ hi ≤ a) → (∀ j, gI c' a j = gI c a j) ∧ ∀ j, gR c' a j = gR c a j) ∧ (∀ a, gL c' a = gL c a) ∧ gN c' = gN c
theorem frC.rf (c : Sg) (lo hi : Nat) : frC c c lo hi := ⟨fun _ _ => ⟨fun _ => rfl, fun _ => rfl⟩, fun _ => rfl, rfl⟩
theorem frC.mono {c c' : Sg} {lo hi lo' hi' : Nat} (h : frC c c' lo hi) (h1 : lo' ≤ lo) (h2 : hi ≤ hi') : frC c c' lo' hi' := ⟨fun a ha => h.1 a (by omega), h.2⟩
theorem frC.trans {c c' c'' : Sg} {lo hi : Nat} (h : frC c c' lo hi) (g : frC c' c'' lo hi) : frC c c'' lo hi :=
  ⟨fun a ha => ⟨fun j => ((g.1 a ha).1 j).trans ((h.1 a ha).1 j), fun j => ((g.1 a ha).2 j).trans ((h.1 a ha).2 j)⟩, fun a => (g.2.1 a).trans (h.2.1 a), g.2.2.trans h.2.2⟩
theorem frC.sI {c : Sg} {q : Nat} {j v : Int} {lo hi : Nat} (h1 : lo ≤ q) (h2 : q < hi) : frC c (sI c q j v) lo hi :=
  ⟨fun a ha => ⟨fun b => gI_sI_ne (by omega), fun _ => rfl⟩, fun _ => rfl, rfl⟩
theorem frC.sR {c : Sg} {q : Nat} {j : Int} {v : Nat} {lo hi : Nat} (h1 : lo ≤ q) (h2 : q < hi) : frC c (sR c q j v) lo hi :=
  ⟨fun a ha => ⟨fun _ => rfl, fun b => gR_sR_ne (by omega)⟩, fun _ => rfl, rfl⟩
theorem frC.sC {c : Sg} {q0 : Nat} {sp : Int} {q1 : Nat} {dp n : Int} {lo hi : Nat} (h1 : lo ≤ q1) (h2 : q1 < hi) : frC c (sC c q0 sp q1 dp n) lo hi :=
  ⟨fun a ha => ⟨fun b => gI_sC_ne (by omega), fun _ => rfl⟩, fun _ => rfl, rfl⟩
/-- the sum of the first k -/
def smS (L : Int → Int) : Nat → Int
  | 0 => 0
  | k + 1 => smS L k + L (k : Int)
theorem smS_nn {L : Int → Int} {n : Nat} (h : ∀ p : Int, 0 ≤ p → p < n → 0 ≤ L p) : ∀ k, k ≤ n → 0 ≤ smS L k := by
  intro k
  induction k with
  | zero => intro _; exact Int.le_refl 0
  | succ k ih =>
    intro hk
    have h1 := ih (by omega)
    have h2 := h (k : Int) (by omega) (by omega)
    show 0 ≤ smS L k + L (k : Int)
    omega
theorem smS_le {L : Int → Int} {n : Nat} (h : ∀ p : Int, 0 ≤ p → p < n → 0 ≤ L p) : ∀ k, k ≤ n → smS L k ≤ smS L n := by
  induction n with
  | zero => intro k hk; rw [show k = 0 by omega]; exact Int.le_refl _
  | succ n ih =>
    intro k hk
    have h2 := h (n : Int) (by omega) (by omega)
    by_cases e : k = n + 1
    · rw [e]; exact Int.le_refl _
    · have := ih (fun p p0 p1 => h p p0 (by omega)) k (by omega)
      show smS L k ≤ smS L n + L (n : Int)
      omega
theorem smS_congr {L L' : Int → Int} {n : Nat} (h : ∀ p : Int, 0 ≤ p → p < n → L p = L' p) : ∀ k, k ≤ n → smS L k = smS L' k := by
  intro k
  induction k with
  | zero => intro _; rfl
  | succ k ih =>
    intro hk
    show smS L k + L (k : Int) = smS L' k + L' (k : Int)
    rw [ih (by omega), h (k : Int) (by omega) (by omega)]
/-! PIECES: n pieces, first frames F, lengths L -/
def InvCu (n : Int) (F L : Int → Int) : Prop := 0 ≤ n ∧ n ≤ 10 ∧ (∀ p, 0 ≤ p → p < n → 0 ≤ F p ∧ 1 ≤ L p ∧ L p ≤ 5000 ∧ F p + L p ≤ 10000) ∧ smS L n.toNat ≤ 9999
theorem InvCu.sm {n : Int} {F L : Int → Int} (h : InvCu n F L) {k : Int} (h0 : 0 ≤ k) (h1 : k ≤ n) : 0 ≤ smS L k.toNat ∧ smS L k.toNat ≤ smS L n.toNat ∧ smS L n.toNat ≤ 9999 := by
  obtain ⟨a, b, c, d⟩ := h
  have hp : ∀ p : Int, 0 ≤ p → p < (n.toNat : Int) → 0 ≤ L p := fun p p0 p1 => by
    have := c p p0 (by omega)
    omega
  exact ⟨smS_nn hp _ (by omega), smS_le hp _ (by omega), d⟩
/-- the class's pieces at q -/
def CuC (c : Sg) (q : Nat) (n : Int) (F L : Int → Int) : Prop := gI c q 2 = n ∧ ∀ p, 0 ≤ p → p < n → gI c (q + 1) p = F p ∧ gI c (q + 2) p = L p
theorem CuC.kept {c c' : Sg} {q : Nat} {n : Int} {F L : Int → Int} (h : CuC c q n F L) {lo hi : Nat} (hf : frC c c' lo hi) (hd : hi ≤ q ∨ q + 3 ≤ lo) : CuC c' q n F L := by
  obtain ⟨h1, h2⟩ := h
  refine ⟨((hf.1 q (by omega)).1 2).trans h1, fun p p0 p1 => ?_⟩
  rw [(hf.1 (q + 1) (by omega)).1 p, (hf.1 (q + 2) (by omega)).1 p]
  exact h2 p p0 p1
/-- the reference's pieces in the block at b of the page -/
def CuM (m : Sg) (b : Int) (n : Int) (F L : Int → Int) : Prop := gI m 280 b = n ∧ ∀ p, 0 ≤ p → p < n → gI m 280 (b + (1 + 2 * p)) = F p ∧ gI m 280 (b + (1 + 2 * p + 1)) = L p
section CUTS
variable {c m : Sg} {q : Nat} {n : Int} {F L : Int → Int}
theorem has_sp {x : Int} {Q : Int → Prop} (h : CuC c q n F L) (h1 : 0 ≤ x ∧ x < n → Q 1) (h0 : ¬ (0 ≤ x ∧ x < n) → Q 0) : wp_X0_has q x c Q := by
  have e := h.1
  exact ⟨fun a => h0 (by omega), fun a => ⟨fun b => h0 (by omega), fun b => h1 (by omega)⟩⟩
theorem firstOf_sp {x : Int} {Q : Int → Prop} (h : CuC c q n F L) (hn : n ≤ 10) (x0 : 0 ≤ x) (x1 : x < n) (hQ : Q (F x)) : wp_X0_firstOf q x c Q :=
  has_sp h (fun _ => ⟨fun z => by omega, fun _ => ⟨x0, by omega, by rw [(h.2 x x0 x1).1]; exact hQ⟩⟩) (fun z => absurd ⟨x0, x1⟩ z)
theorem lengthOf_sp {x : Int} {Q : Int → Prop} (h : CuC c q n F L) (hn : n ≤ 10) (x0 : 0 ≤ x) (x1 : x < n) (hQ : Q (L x)) : wp_X0_lengthOf q x c Q :=
  has_sp h (fun _ => ⟨fun z => by omega, fun _ => ⟨x0, by omega, by rw [(h.2 x x0 x1).2]; exact hQ⟩⟩) (fun z => absurd ⟨x0, x1⟩ z)
theorem startOf_sp {x : Int} {Q : Int → Prop} (h : CuC c q n F L) (hI : InvCu n F L) (x0 : 0 ≤ x) (x1 : x ≤ n) (hQ : Q (smS L x.toNat)) : wp_X0_startOf q x c Q := by
  intro P hP
  refine lq2 (P := P) (fun _ k => (n - k).toNat) (fun u k => 0 ≤ k ∧ k ≤ x ∧ u = smS L k.toNat) ?_ 0 0 ⟨by omega, x0, rfl⟩
  rintro u k ⟨k0, k1, rfl⟩ ih
  refine hP _ k ⟨fun z => ?_, fun z => ?_⟩
  · rw [show k = x by omega]; exact hQ
  · have e := h.1
    have b := hI.2.1
    refine ⟨fun y => by omega, fun y => ⟨k0, by omega, ?_⟩⟩
    rintro w rfl
    have hl := (h.2 k k0 (by omega)).2
    have s1 := hI.sm (k := k) k0 (by omega)
    have s2 := hI.sm (k := k + 1) (by omega) (by omega)
    have ek : smS L (k + 1).toNat = smS L k.toNat + L k := by
      rw [show (k + 1).toNat = k.toNat + 1 by omega]
      show smS L k.toNat + L (k.toNat : Int) = _
      rw [show ((k.toNat : Nat) : Int) = k by omega]
    rw [hl]
    refine ⟨rgO (by omega) (by omega), rgO (by omega) (by omega), ih _ (k + 1) ⟨by omega, by omega, ek.symm⟩ (by omega)⟩
theorem frames_sp {Q : Int → Prop} (h : CuC c q n F L) (hI : InvCu n F L) (hQ : Q (smS L n.toNat)) : wp_X0_frames q c Q := by
  unfold wp_X0_frames
  rw [h.1]
  exact startOf_sp h hI hI.1 (Int.le_refl _) hQ
end CUTS
