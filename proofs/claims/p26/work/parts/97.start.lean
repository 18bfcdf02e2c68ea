/-! the law from its entry -/
theorem whole_start {p : Program} {e : Env} {s : State} {m : MethodId} {below : List Frame} {meth : Method} {c : Code} (l : Launch) (hflags : l.flags = flags0) {b L : Nat} {xs : Nat → Int32} (hL : L ≤ 260) (C0 : lw_At p s m meth c b L xs) : W p l e room_1 s m #[Value.ref b] below meth c s.heap [] 0 0 (lw_Z below #[Value.ref b] s) (entryFrame m ([Value.ref b] : List Value).toArray 9) := by
  obtain ⟨E, he, he2, hs, ⟨hE, h9⟩, hk⟩ := law_kn hL C0
  obtain ⟨hx, hb, hr, hml, hown, hts, hX, hbl, hlocks, hgv⟩ := C0
  have C : Cx (p, l, e, room_1, s, m, #[Value.ref b], below, meth, c, 0, 0, (fun a => eb E ≤ a + 1), 9, fun _ _ => True) E cL_law RL (some .boolean) room_1 9 :=
    ⟨hx, hb, hml, hown, fun w hw => hts w (lw_gt_good w hw).1, hr, hlocks, hk, fun a h => lo_A a h, fun a h => h, rfl, rfl⟩
  have key := law_new (QF := lw_Z below #[Value.ref b] s) C (fun a h => h) hE hs (sl := scL E) (sx := scX E) rfl rfl (fun d => by
    intro lv c0 s0 t hc H locs ls h1 h2 h3
    refine va_forget (fun q hq => by
      have h8 : eb E ≤ q.base + 1 := h2.2.2 q hq
      have h7 : s.heap.size ≤ q.base := by omega
      exact h7) ?_
    refine W.widen (k := 758913) (n := 6825510) (by omega) (by omega) ?_
    exact lw_ret hx hb hr hlocks d) (pure_law (by unfold scL; omega) (fun j => rgI_of _))
  rw [lg_entry_eq]
  rw [h9] at key
  exact key s.heap [] _ ⟨by omega, fun a x h => by cases h⟩ va_S.rf (lv_entry [.ref b] (Nat.le_of_ble_eq_true rfl))
