/-! THE CORE: whole numbers for the machine's ints; the pure state of class and reference; where its cells lie -/
def jI (x : Int) : Int32 := Int32.ofInt x
def jL (x : Int) : Int64 := Int64.ofInt x
def rgI (x : Int) : Prop := -2147483648 ≤ x ∧ x ≤ 2147483647
theorem jI_add (x y : Int) : jI x + jI y = jI (x + y) := (Int32.ofInt_add x y).symm
theorem jI_sub (x y : Int) : jI x - jI y = jI (x - y) := (Int32.ofInt_sub x y).symm
theorem jI_mul (x y : Int) : jI x * jI y = jI (x * y) := (Int32.ofInt_mul x y).symm
theorem jI_neg (x : Int) : -jI x = jI (-x) := (Int32.ofInt_neg x).symm
theorem jL_add (x y : Int) : jL x + jL y = jL (x + y) := (Int64.ofInt_add x y).symm
theorem jL_mul (x y : Int) : jL x * jL y = jL (x * y) := (Int64.ofInt_mul x y).symm
theorem jI_toInt {x : Int} (h : rgI x) : (jI x).toInt = x := by
  obtain ⟨h1, h2⟩ := h
  exact Int32.toInt_ofInt_of_le (by omega) (by omega)
theorem jI_lt {x y : Int} (hx : rgI x) (hy : rgI y) : jI x < jI y ↔ x < y := by
  rw [Int32.lt_iff_toInt_lt, jI_toInt hx, jI_toInt hy]
theorem jI_le {x y : Int} (hx : rgI x) (hy : rgI y) : jI x ≤ jI y ↔ x ≤ y := by
  rw [Int32.le_iff_toInt_le, jI_toInt hx, jI_toInt hy]
theorem jI_eq {x y : Int} (hx : rgI x) (hy : rgI y) : jI x = jI y ↔ x = y := by
  rw [← Int32.toInt_inj, jI_toInt hx, jI_toInt hy]
theorem jI_of (x : Int32) : jI x.toInt = x := Int32.ofInt_toInt x
theorem rgI_of (x : Int32) : rgI x.toInt := by
  have h1 := x.le_toInt
  have h2 := x.toInt_lt
  exact ⟨by omega, by omega⟩
theorem jI_clamp {x : Int} (h : rgI x) : (jI x).toNatClampNeg = x.toNat := by
  obtain ⟨h1, h2⟩ := h
  exact Int32.toNatClampNeg_ofInt_of_le (by omega) (by omega)
theorem rgI_0 : rgI 0 := ⟨by decide, by decide⟩
theorem jI_0 : (0 : Int32) = jI 0 := rfl
theorem jI_in {x : Int} {n : Nat} (hn : n < 2147483648) (h0 : 0 ≤ x) (h1 : x < (n : Int)) : vp_in (jI x) n := by
  have hr : rgI x := ⟨by omega, by omega⟩
  rintro (h | h)
  · rw [jI_0, jI_lt hr rgI_0] at h
    omega
  · rw [jI_clamp hr] at h
    omega
theorem jI_i2l {x : Int} (h : rgI x) : (jI x).toInt64 = jL x := by
  obtain ⟨h1, h2⟩ := h
  exact Int32.toInt64_ofInt (by show (-2147483648 : Int) ≤ x; exact h1) (by show x ≤ (2147483647 : Int); exact h2)
theorem jI_byte {x : Int} (h1 : -128 ≤ x) (h2 : x ≤ 127) : (jI x).toInt8.toInt32 = jI x := by
  show ((Int32.ofInt x).toInt8).toInt32 = Int32.ofInt x
  rw [Int32.toInt8_ofInt]
  exact Int8.toInt32_ofInt (by show (-128 : Int) ≤ x; exact h1) (by show x ≤ (127 : Int); exact h2)
theorem jI_div {x y : Int} (hx : rgI x) (hy : rgI y) : jI x / jI y = jI (x.tdiv y) := by
  obtain ⟨h1, h2⟩ := hx
  obtain ⟨h3, h4⟩ := hy
  exact (Int32.ofInt_tdiv (by show (-2147483648 : Int) ≤ x; exact h1) (by show x ≤ (2147483647 : Int); exact h2) (by show (-2147483648 : Int) ≤ y; exact h3) (by show y ≤ (2147483647 : Int); exact h4)).symm
theorem jI_rem {x y : Int} (hx : rgI x) (hy : rgI y) : jI x - jI x / jI y * jI y = jI (x.tmod y) := by
  rw [jI_div hx hy, jI_mul, jI_sub]
  congr 1
  have := Int.tmod_add_mul_tdiv x y
  have h2 : y * x.tdiv y = x.tdiv y * y := Int.mul_comm _ _
  omega
def jAnd (x y : Int) : Int := (jI x &&& jI y).toInt
def jOr (x y : Int) : Int := (jI x ||| jI y).toInt
def jShl (x y : Int) : Int := (jI x <<< (jI y &&& 31)).toInt
def jShr (x y : Int) : Int := (jI x >>> (jI y &&& 31)).toInt
theorem jI_and (x y : Int) : jI x &&& jI y = jI (jAnd x y) := (jI_of _).symm
theorem jI_or (x y : Int) : jI x ||| jI y = jI (jOr x y) := (jI_of _).symm
theorem jI_shl (x y : Int) : jI x <<< (jI y &&& 31) = jI (jShl x y) := (jI_of _).symm
theorem jI_shr (x y : Int) : jI x >>> (jI y &&& 31) = jI (jShr x y) := (jI_of _).symm
theorem rg_and (x y : Int) : rgI (jAnd x y) := rgI_of _
theorem rg_or (x y : Int) : rgI (jOr x y) := rgI_of _
theorem rg_shl (x y : Int) : rgI (jShl x y) := rgI_of _
theorem rg_shr (x y : Int) : rgI (jShr x y) := rgI_of _
/-! the pure state: what each cell (by its number) holds: whole numbers at places; numbers of cells; how many cells; how long a text is -/
abbrev Sg : Type := (Nat → Int → Int) × (Nat → Int → Nat) × Nat × (Nat → Int)
def gI (σ : Sg) (q : Nat) (j : Int) : Int := σ.1 q j
def gR (σ : Sg) (q : Nat) (j : Int) : Nat := σ.2.1 q j
def gN (σ : Sg) : Nat := σ.2.2.1
def gL (σ : Sg) (q : Nat) : Int := σ.2.2.2 q
def sI (σ : Sg) (q : Nat) (j v : Int) : Sg := (fun a b => if a = q ∧ b = j then v else σ.1 a b, σ.2)
def sR (σ : Sg) (q : Nat) (j : Int) (v : Nat) : Sg := (σ.1, fun a b => if a = q ∧ b = j then v else σ.2.1 a b, σ.2.2)
/-- n numbers of the row q0 from sp on come into the row q1 from dp on -/
def sC (σ : Sg) (q0 : Nat) (sp : Int) (q1 : Nat) (dp n : Int) : Sg := (fun a b => if a = q1 ∧ dp ≤ b ∧ b < dp + n then σ.1 q0 (sp + (b - dp)) else σ.1 a b, σ.2)
theorem gI_sI (σ : Sg) (q : Nat) (j v : Int) (a : Nat) (b : Int) : gI (sI σ q j v) a b = if a = q ∧ b = j then v else gI σ a b := rfl
theorem gI_sI_self (σ : Sg) (q : Nat) (j v : Int) : gI (sI σ q j v) q j = v := by rw [gI_sI, if_pos ⟨rfl, rfl⟩]
theorem gI_sI_ne {σ : Sg} {q : Nat} {j v : Int} {a : Nat} {b : Int} (h : a ≠ q) : gI (sI σ q j v) a b = gI σ a b := by rw [gI_sI, if_neg (fun z => h z.1)]
theorem gI_sI_nj {σ : Sg} {q : Nat} {j v : Int} {a : Nat} {b : Int} (h : b ≠ j) : gI (sI σ q j v) a b = gI σ a b := by rw [gI_sI, if_neg (fun z => h z.2)]
theorem gR_sI (σ : Sg) (q : Nat) (j v : Int) (a : Nat) (b : Int) : gR (sI σ q j v) a b = gR σ a b := rfl
theorem gN_sI (σ : Sg) (q : Nat) (j v : Int) : gN (sI σ q j v) = gN σ := rfl
theorem gL_sI (σ : Sg) (q : Nat) (j v : Int) (a : Nat) : gL (sI σ q j v) a = gL σ a := rfl
theorem gI_sR (σ : Sg) (q : Nat) (j : Int) (v : Nat) (a : Nat) (b : Int) : gI (sR σ q j v) a b = gI σ a b := rfl
theorem gR_sR (σ : Sg) (q : Nat) (j : Int) (v : Nat) (a : Nat) (b : Int) : gR (sR σ q j v) a b = if a = q ∧ b = j then v else gR σ a b := rfl
theorem gR_sR_self (σ : Sg) (q : Nat) (j : Int) (v : Nat) : gR (sR σ q j v) q j = v := by rw [gR_sR, if_pos ⟨rfl, rfl⟩]
theorem gR_sR_ne {σ : Sg} {q : Nat} {j : Int} {v : Nat} {a : Nat} {b : Int} (h : a ≠ q) : gR (sR σ q j v) a b = gR σ a b := by rw [gR_sR, if_neg (fun z => h z.1)]
theorem gR_sR_nj {σ : Sg} {q : Nat} {j : Int} {v : Nat} {a : Nat} {b : Int} (h : b ≠ j) : gR (sR σ q j v) a b = gR σ a b := by rw [gR_sR, if_neg (fun z => h z.2)]
theorem gN_sR (σ : Sg) (q : Nat) (j : Int) (v : Nat) : gN (sR σ q j v) = gN σ := rfl
theorem gL_sR (σ : Sg) (q : Nat) (j : Int) (v : Nat) (a : Nat) : gL (sR σ q j v) a = gL σ a := rfl
theorem gI_sC (σ : Sg) (q0 : Nat) (sp : Int) (q1 : Nat) (dp n : Int) (a : Nat) (b : Int) : gI (sC σ q0 sp q1 dp n) a b = if a = q1 ∧ dp ≤ b ∧ b < dp + n then gI σ q0 (sp + (b - dp)) else gI σ a b := rfl
theorem gI_sC_ne {σ : Sg} {q0 : Nat} {sp : Int} {q1 : Nat} {dp n : Int} {a : Nat} {b : Int} (h : a ≠ q1) : gI (sC σ q0 sp q1 dp n) a b = gI σ a b := by rw [gI_sC, if_neg (fun z => h z.1)]
theorem gR_sC (σ : Sg) (q0 : Nat) (sp : Int) (q1 : Nat) (dp n : Int) (a : Nat) (b : Int) : gR (sC σ q0 sp q1 dp n) a b = gR σ a b := rfl
theorem gN_sC (σ : Sg) (q0 : Nat) (sp : Int) (q1 : Nat) (dp n : Int) : gN (sC σ q0 sp q1 dp n) = gN σ := rfl
theorem gL_sC (σ : Sg) (q0 : Nat) (sp : Int) (q1 : Nat) (dp n : Int) (a : Nat) : gL (sC σ q0 sp q1 dp n) a = gL σ a := rfl
/-! the numbers of the cells: 0 the class's object, 4 .. 30 its state, 31 .. 60 the trial, 61 .. 278 the history; 279 .. 292 the reference; 293 and on the parts, two cells each -/
def kbO (r : Nat) : Nat := if r = 0 then 5 else if r = 1 then 6 else if r = 2 then 7 else if r = 3 then 7 else if r = 4 then 8 else if r = 5 then 9 else if r = 6 then 10 else if r = 7 then 11 else if r = 8 then 12 else if r = 9 then 13 else 14
def kdO (q : Nat) : Nat := if q < 4 then q + 1 else if q < 31 then kbO (q - 4) else if q < 34 then (if q = 31 then 15 else 7) else if q < 61 then kbO (q - 34) else if q = 61 then 16 else if q = 62 then 17 else if q < 279 then kbO ((q - 63) % 27) else if q = 279 then 20 else if q = 280 then 21 else if q = 281 then 22 else if q < 292 then 23 else if q = 292 then 24 else if q % 2 = 1 then 3 else 4
theorem kbO_in (r : Nat) : 5 ≤ kbO r ∧ kbO r ≤ 14 := by unfold kbO; (repeat' split) <;> omega
/-- a number below 279 -/
theorem kdO_cls {q k : Nat} (h : kdO q = k) (h1 : k < 20) (h2 : k ≠ 3) (h3 : k ≠ 4) : q < 279 := by
  rcases Nat.lt_or_ge q 279 with g | g
  · exact g
  · exfalso
    unfold kdO at h
    rw [if_neg (by omega), if_neg (by omega), if_neg (by omega), if_neg (by omega), if_neg (by omega), if_neg (by omega), if_neg (by omega)] at h
    (repeat' split at h) <;> omega
theorem kdO_lo {q : Nat} (h : q < 279) : kdO q ≤ 17 := by
  have b1 := kbO_in (q - 4)
  have b2 := kbO_in (q - 34)
  have b3 := kbO_in ((q - 63) % 27)
  unfold kdO
  (repeat' split) <;> omega
theorem kdO_hi {q : Nat} (h : 293 ≤ q) : kdO q = if q % 2 = 1 then 3 else 4 := by
  unfold kdO
  rw [if_neg (by omega), if_neg (by omega), if_neg (by omega), if_neg (by omega), if_neg (by omega), if_neg (by omega), if_neg (by omega), if_neg (by omega), if_neg (by omega), if_neg (by omega), if_neg (by omega), if_neg (by omega)]
theorem kdO_mod {q k : Nat} (h : kdO q = k) (h1 : 20 ≤ k) : 279 ≤ q ∧ q < 293 := by
  rcases Nat.lt_or_ge q 279 with g | g
  · have := kdO_lo g
    omega
  · refine ⟨g, ?_⟩
    rcases Nat.lt_or_ge q 293 with g2 | g2
    · exact g2
    · rw [kdO_hi g2] at h
      split at h <;> omega
theorem kdO_blk {q r : Nat} (h : (∃ k, k < 8 ∧ q = 63 + 27 * k + r) ∨ q = 4 + r ∨ q = 34 + r) (hr : r < 27) : kdO q = kbO r := by
  rcases h with ⟨k, hk, rfl⟩ | rfl | rfl
  · unfold kdO
    rw [if_neg (by omega), if_neg (by omega), if_neg (by omega), if_neg (by omega), if_neg (by omega), if_neg (by omega), if_pos (by omega)]
    congr 1
    omega
  · unfold kdO
    rw [if_neg (by omega), if_pos (by omega)]
    congr 1
    omega
  · unfold kdO
    rw [if_neg (by omega), if_neg (by omega), if_neg (by omega), if_pos (by omega)]
    congr 1
    omega
/-- where a cell of a state lies: its block, and its place there -/
theorem kdO_in {q k : Nat} (h : kdO q = k) (h1 : 5 ≤ k) (h2 : k ≤ 14) (h7 : k ≠ 7) : ∃ r, r < 27 ∧ kbO r = k ∧ ((∃ k, k < 8 ∧ q = 63 + 27 * k + r) ∨ q = 4 + r ∨ q = 34 + r) := by
  have hq : q < 279 := kdO_cls h (by omega) (by omega) (by omega)
  unfold kdO at h
  split at h
  · omega
  split at h
  · exact ⟨q - 4, by omega, h, Or.inr (Or.inl (by omega))⟩
  split at h
  · split at h <;> omega
  split at h
  · exact ⟨q - 34, by omega, h, Or.inr (Or.inr (by omega))⟩
  split at h
  · omega
  split at h
  · omega
  · exact ⟨(q - 63) % 27, by omega, h, Or.inl ⟨(q - 63) / 27, by omega, by omega⟩⟩
theorem kbO_5 {r : Nat} (h : kbO r = 5) : r = 0 := by unfold kbO at h; (repeat' split at h) <;> omega
theorem kbO_6 {r : Nat} (h : kbO r = 6) : r = 1 := by unfold kbO at h; (repeat' split at h) <;> omega
theorem kbO_8 {r : Nat} (h : kbO r = 8) : r = 4 := by unfold kbO at h; (repeat' split at h) <;> omega
theorem kbO_10 {r : Nat} (h : kbO r = 10) : r = 6 := by unfold kbO at h; (repeat' split at h) <;> omega
theorem kbO_12 {r : Nat} (h : kbO r = 12) : r = 8 := by unfold kbO at h; (repeat' split at h) <;> omega
theorem kbO_13 {r : Nat} (h : kbO r = 13) : r = 9 := by unfold kbO at h; (repeat' split at h) <;> omega
theorem kd_next {q k r0 r1 : Nat} (h : kdO q = k) (h1 : 5 ≤ k) (h2 : k ≤ 14) (h7 : k ≠ 7) (hr : ∀ r, kbO r = k → r = r0) (hle : r0 ≤ r1) (hlt : r1 < 27) : kdO (q + (r1 - r0)) = kbO r1 := by
  obtain ⟨r, g1, g2, g3⟩ := kdO_in h h1 h2 h7
  have e := hr r g2
  subst e
  refine kdO_blk ?_ hlt
  rcases g3 with ⟨k, hk, g⟩ | g | g
  · exact Or.inl ⟨k, hk, by omega⟩
  · exact Or.inr (Or.inl (by omega))
  · exact Or.inr (Or.inr (by omega))
theorem kd5_cut {q : Nat} (h : kdO q = 5) : kdO (q + 1) = 6 := kd_next (r1 := 1) h (by omega) (by omega) (by omega) (fun _ => kbO_5) (by omega) (by omega)
theorem kd5_shots {q : Nat} (h : kdO q = 5) : kdO (q + 4) = 8 := kd_next (r1 := 4) h (by omega) (by omega) (by omega) (fun _ => kbO_5) (by omega) (by omega)
theorem kd5_settings {q : Nat} (h : kdO q = 5) : kdO (q + 6) = 10 := kd_next (r1 := 6) h (by omega) (by omega) (by omega) (fun _ => kbO_5) (by omega) (by omega)
theorem kd5_track {q : Nat} (h : kdO q = 5) : kdO (q + 8) = 12 := kd_next (r1 := 8) h (by omega) (by omega) (by omega) (fun _ => kbO_5) (by omega) (by omega)
theorem kd6_firsts {q : Nat} (h : kdO q = 6) : kdO (q + 1) = 7 := kd_next (r1 := 2) h (by omega) (by omega) (by omega) (fun _ => kbO_6) (by omega) (by omega)
theorem kd6_lengths {q : Nat} (h : kdO q = 6) : kdO (q + 2) = 7 := kd_next (r1 := 3) h (by omega) (by omega) (by omega) (fun _ => kbO_6) (by omega) (by omega)
theorem kd8_frames {q : Nat} (h : kdO q = 8) : kdO (q + 1) = 9 := kd_next (r1 := 5) h (by omega) (by omega) (by omega) (fun _ => kbO_8) (by omega) (by omega)
theorem kd10_values {q : Nat} (h : kdO q = 10) : kdO (q + 1) = 11 := kd_next (r1 := 7) h (by omega) (by omega) (by omega) (fun _ => kbO_10) (by omega) (by omega)
theorem kd12_rows {q : Nat} (h : kdO q = 12) : kdO (q + 1) = 13 := kd_next (r1 := 9) h (by omega) (by omega) (by omega) (fun _ => kbO_12) (by omega) (by omega)
theorem kd12_missing {q : Nat} (h : kdO q = 12) : kdO (q + 18) = 14 := kd_next (r1 := 26) h (by omega) (by omega) (by omega) (fun _ => kbO_12) (by omega) (by omega)
theorem kd3_text {q : Nat} (h : kdO q = 3) : kdO (q + 1) = 4 := by
  rcases Nat.lt_or_ge q 293 with g | g
  · have b1 := kbO_in (q - 4)
    have b2 := kbO_in (q - 34)
    have b3 := kbO_in ((q - 63) % 27)
    have : q = 2 := by
      unfold kdO at h
      rcases Nat.lt_or_ge q 4 with g4 | g4
      · rw [if_pos g4] at h
        omega
      · rw [if_neg (by omega)] at h
        (repeat' split at h) <;> omega
    subst this
    decide
  · rw [kdO_hi g] at h
    rw [kdO_hi (by omega)]
    split at h
    · rw [if_neg (by omega)]
    · omega
theorem kd_state {k : Int} (h0 : 0 ≤ k) (h : k < 8) : kdO (63 + 27 * k.toNat) = 5 := by
  have := kdO_blk (q := 63 + 27 * k.toNat) (r := 0) (Or.inl ⟨k.toNat, by omega, by omega⟩) (by omega)
  rw [this]; rfl
