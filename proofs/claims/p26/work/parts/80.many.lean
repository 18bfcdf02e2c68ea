/-! the law's faults: its row of seven numbers is made, then it goes on -/
theorem ct_L_faults {l : Launch} {E0 E : ET} (hE : E = mE E0 0 false) (hs : eS E = true) {s : Sg} {Q : Int → Sg → Prop} (h : wp_L_faults s Q) : MetG l E yL_faults cL_faults 8 (some .boolean) rm_L_faults s [.ref (adE E 0)] (qZ Q (gN s)) 1 7 := by
  subst hE
  refine MetGJ (by decide +kernel) (Nat.le_of_ble_eq_true rfl) ?_
  intro F hl C hF hA hmc hms _
  subst hl
  have hs0 : eS E0 = true := hs
  show JJ F (mE E0 0 false) 0 0 s 0 [(0, .ref (adE (mE E0 0 false) 0))] []
  refine J_bipush C dL_faults_0 (by decide) ?_
  refine J_newM C hs0 wa_int (by decide) dL_faults_2 (fun a ha => ?_)
  have e0 : adE (mE E0 0 false) 0 = adE (mE E0 a false) 0 := (adE_mE E0 0 false (by omega)).trans (adE_mE E0 a false (by omega)).symm
  rw [e0]
  exact jj_L_faults (E0 := mE E0 0 false) (E := mE E0 a false) hs (C.many a) ha (by rw [hA]; exact Or.inr ha) (fun σ H hr => hr.drop hs0 C.kn.2.2.2) hF hmc hms h
