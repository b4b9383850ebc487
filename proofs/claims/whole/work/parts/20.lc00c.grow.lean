/-! WHAT IS MADE STAYS MADE, on -/
section GROW
variable {C0 C : Cd}
set_option maxHeartbeats 16000000 in
set_option maxRecDepth 100000 in
theorem gr_fX11_bringOver (a0 : Nat) (a1 : Int) (a2 : Int) (C : Cd) : GO C (fX11_bringOver a0 a1 a2 C) := by
  unfold fX11_bringOver
  have hC0 : Gr C C := Gr.rf C
  repeat' (with_reducible first
    | exact G_none
    | exact G_some (by assumption)
    | exact G_some (Gr.sB (by assumption))
    | refine G_ite ?_ ?_
    | refine G_bndC (by first | assumption | exact Gr.sI (by assumption) _ _ _ | exact Gr.sR (by assumption) _ _ _ | exact Gr.sE (by assumption) _ _ _ | exact Gr.sP (by assumption) _ _ _ | exact Gr.sN (by assumption) _ | exact Gr.sA (by assumption) _ _ | exact Gr.sB (by assumption) | exact Gr.sS (by assumption) _ _ _ _) (fun _ _ => ?_)
    | refine G_drf (fun _ => ?_)
    | refine G_bndO (fun _ => ?_)
    | refine G_bndI (fun _ => ?_)
    | refine G_bndN (fun _ => ?_)
    | refine G_opt ?_ (fun _ => ?_)
    | exact G_retZ (by assumption)
    | exact G_retZX (by assumption)
    | refine G_cal (gr_fX11_titleOf _ _ _) (by assumption) (fun _ _ _ => ?_)
    | refine G_calx (gr_fX11_titleOf _ _ _) (by assumption) (fun _ _ _ => ?_)
    | exact gr_fX11_titleOf _ _ _
    | refine G_cal (gr_fX4_clear _ _) (by assumption) (fun _ _ _ => ?_)
    | refine G_calx (gr_fX4_clear _ _) (by assumption) (fun _ _ _ => ?_)
    | exact gr_fX4_clear _ _
    | refine G_cal (gr_fX11_noteMemberChange _ _ _) (by assumption) (fun _ _ _ => ?_)
    | refine G_calx (gr_fX11_noteMemberChange _ _ _) (by assumption) (fun _ _ _ => ?_)
    | exact gr_fX11_noteMemberChange _ _ _
    | refine G_cal (gr_fX11_noteTitleChange _ _ _) (by assumption) (fun _ _ _ => ?_)
    | refine G_calx (gr_fX11_noteTitleChange _ _ _) (by assumption) (fun _ _ _ => ?_)
    | exact gr_fX11_noteTitleChange _ _ _
    | solve_by_elim (maxDepth := 3))
set_option maxHeartbeats 16000000 in
set_option maxRecDepth 100000 in
theorem gr_fX11_clock (a0 : Nat) (C : Cd) : GO C (fX11_clock a0 C) := by
  unfold fX11_clock
  have hC0 : Gr C C := Gr.rf C
  repeat' (with_reducible first
    | exact G_none
    | exact G_some (by assumption)
    | exact G_some (Gr.sB (by assumption))
    | refine G_ite ?_ ?_
    | refine G_bndC (by first | assumption | exact Gr.sI (by assumption) _ _ _ | exact Gr.sR (by assumption) _ _ _ | exact Gr.sE (by assumption) _ _ _ | exact Gr.sP (by assumption) _ _ _ | exact Gr.sN (by assumption) _ | exact Gr.sA (by assumption) _ _ | exact Gr.sB (by assumption) | exact Gr.sS (by assumption) _ _ _ _) (fun _ _ => ?_)
    | refine G_drf (fun _ => ?_)
    | refine G_bndO (fun _ => ?_)
    | refine G_bndI (fun _ => ?_)
    | refine G_bndN (fun _ => ?_)
    | refine G_opt ?_ (fun _ => ?_)
    | exact G_retZ (by assumption)
    | exact G_retZX (by assumption)
    | solve_by_elim (maxDepth := 3))
set_option maxHeartbeats 16000000 in
set_option maxRecDepth 100000 in
theorem gr_fX11_makePage (a0 : Nat) (a1 : Int) (a2 : Option Nat) (C : Cd) : GO C (fX11_makePage a0 a1 a2 C) := by
  unfold fX11_makePage
  have hC0 : Gr C C := Gr.rf C
  repeat' (with_reducible first
    | exact G_none
    | exact G_some (by assumption)
    | exact G_some (Gr.sB (by assumption))
    | refine G_ite ?_ ?_
    | refine G_bndC (by first | assumption | exact Gr.sI (by assumption) _ _ _ | exact Gr.sR (by assumption) _ _ _ | exact Gr.sE (by assumption) _ _ _ | exact Gr.sP (by assumption) _ _ _ | exact Gr.sN (by assumption) _ | exact Gr.sA (by assumption) _ _ | exact Gr.sB (by assumption) | exact Gr.sS (by assumption) _ _ _ _) (fun _ _ => ?_)
    | refine G_drf (fun _ => ?_)
    | refine G_bndO (fun _ => ?_)
    | refine G_bndI (fun _ => ?_)
    | refine G_bndN (fun _ => ?_)
    | refine G_opt ?_ (fun _ => ?_)
    | exact G_retZ (by assumption)
    | exact G_retZX (by assumption)
    | refine G_cal (gr_fX11_makeVersion _ _ _ _) (by assumption) (fun _ _ _ => ?_)
    | refine G_calx (gr_fX11_makeVersion _ _ _ _) (by assumption) (fun _ _ _ => ?_)
    | exact gr_fX11_makeVersion _ _ _ _
    | refine G_cal (gr_fX3_init _ _ _) (by assumption) (fun _ _ _ => ?_)
    | refine G_calx (gr_fX3_init _ _ _) (by assumption) (fun _ _ _ => ?_)
    | exact gr_fX3_init _ _ _
    | refine G_cal (gr_fX11_noteTitleChange _ _ _) (by assumption) (fun _ _ _ => ?_)
    | refine G_calx (gr_fX11_noteTitleChange _ _ _) (by assumption) (fun _ _ _ => ?_)
    | exact gr_fX11_noteTitleChange _ _ _
    | solve_by_elim (maxDepth := 3))
set_option maxHeartbeats 16000000 in
set_option maxRecDepth 100000 in
theorem gr_fX11_create (a0 : Nat) (a1 : Int) (C : Cd) : GO C (fX11_create a0 a1 C) := by
  unfold fX11_create
  have hC0 : Gr C C := Gr.rf C
  repeat' (with_reducible first
    | exact G_none
    | exact G_some (by assumption)
    | exact G_some (Gr.sB (by assumption))
    | refine G_ite ?_ ?_
    | refine G_bndC (by first | assumption | exact Gr.sI (by assumption) _ _ _ | exact Gr.sR (by assumption) _ _ _ | exact Gr.sE (by assumption) _ _ _ | exact Gr.sP (by assumption) _ _ _ | exact Gr.sN (by assumption) _ | exact Gr.sA (by assumption) _ _ | exact Gr.sB (by assumption) | exact Gr.sS (by assumption) _ _ _ _) (fun _ _ => ?_)
    | refine G_drf (fun _ => ?_)
    | refine G_bndO (fun _ => ?_)
    | refine G_bndI (fun _ => ?_)
    | refine G_bndN (fun _ => ?_)
    | refine G_opt ?_ (fun _ => ?_)
    | exact G_retZ (by assumption)
    | exact G_retZX (by assumption)
    | refine G_L_C (fun _ _ => ?_) (fun _ _ _ _ => ?_) (fun _ _ => ?_)
    | refine G_J_C (fun _ _ => ?_) (fun _ _ => ?_)
    | refine G_cal (gr_fX11_titleOf _ _ _) (by assumption) (fun _ _ _ => ?_)
    | refine G_calx (gr_fX11_titleOf _ _ _) (by assumption) (fun _ _ _ => ?_)
    | exact gr_fX11_titleOf _ _ _
    | refine G_cal (gr_fX11_mayActAt _ _ _) (by assumption) (fun _ _ _ => ?_)
    | refine G_calx (gr_fX11_mayActAt _ _ _) (by assumption) (fun _ _ _ => ?_)
    | exact gr_fX11_mayActAt _ _ _
    | refine G_cal (gr_fX8_isText _ _) (by assumption) (fun _ _ _ => ?_)
    | refine G_calx (gr_fX8_isText _ _) (by assumption) (fun _ _ _ => ?_)
    | exact gr_fX8_isText _ _
    | refine G_cal (gr_fX11_makePage _ _ _ _) (by assumption) (fun _ _ _ => ?_)
    | refine G_calx (gr_fX11_makePage _ _ _ _) (by assumption) (fun _ _ _ => ?_)
    | exact gr_fX11_makePage _ _ _ _
    | refine G_cal (gr_fX8_clear _ _) (by assumption) (fun _ _ _ => ?_)
    | refine G_calx (gr_fX8_clear _ _) (by assumption) (fun _ _ _ => ?_)
    | exact gr_fX8_clear _ _
    | solve_by_elim (maxDepth := 3))
set_option maxHeartbeats 16000000 in
set_option maxRecDepth 100000 in
theorem gr_fX11_mean (a0 : Nat) (a1 : Option Nat) (a2 : Int) (C : Cd) : GO C (fX11_mean a0 a1 a2 C) := by
  unfold fX11_mean
  have hC0 : Gr C C := Gr.rf C
  repeat' (with_reducible first
    | exact G_none
    | exact G_some (by assumption)
    | exact G_some (Gr.sB (by assumption))
    | refine G_ite ?_ ?_
    | refine G_bndC (by first | assumption | exact Gr.sI (by assumption) _ _ _ | exact Gr.sR (by assumption) _ _ _ | exact Gr.sE (by assumption) _ _ _ | exact Gr.sP (by assumption) _ _ _ | exact Gr.sN (by assumption) _ | exact Gr.sA (by assumption) _ _ | exact Gr.sB (by assumption) | exact Gr.sS (by assumption) _ _ _ _) (fun _ _ => ?_)
    | refine G_drf (fun _ => ?_)
    | refine G_bndO (fun _ => ?_)
    | refine G_bndI (fun _ => ?_)
    | refine G_bndN (fun _ => ?_)
    | refine G_opt ?_ (fun _ => ?_)
    | exact G_retZ (by assumption)
    | exact G_retZX (by assumption)
    | refine G_cal (gr_fX8_clear _ _) (by assumption) (fun _ _ _ => ?_)
    | refine G_calx (gr_fX8_clear _ _) (by assumption) (fun _ _ _ => ?_)
    | exact gr_fX8_clear _ _
    | refine G_cal (gr_fX8_sectionStart _ _ _) (by assumption) (fun _ _ _ => ?_)
    | refine G_calx (gr_fX8_sectionStart _ _ _) (by assumption) (fun _ _ _ => ?_)
    | exact gr_fX8_sectionStart _ _ _
    | refine G_cal (gr_fX8_addStretch _ _ _ _ _) (by assumption) (fun _ _ _ => ?_)
    | refine G_calx (gr_fX8_addStretch _ _ _ _ _) (by assumption) (fun _ _ _ => ?_)
    | exact gr_fX8_addStretch _ _ _ _ _
    | solve_by_elim (maxDepth := 3))
set_option maxHeartbeats 16000000 in
set_option maxRecDepth 100000 in
theorem gr_fX11_merge (a0 : Nat) (a1 : Option Nat) (a2 : Option Nat) (a3 : Option Nat) (a4 : Int) (C : Cd) : GO C (fX11_merge a0 a1 a2 a3 a4 C) := by
  unfold fX11_merge
  have hC0 : Gr C C := Gr.rf C
  repeat' (with_reducible first
    | exact G_none
    | exact G_some (by assumption)
    | exact G_some (Gr.sB (by assumption))
    | refine G_ite ?_ ?_
    | refine G_bndC (by first | assumption | exact Gr.sI (by assumption) _ _ _ | exact Gr.sR (by assumption) _ _ _ | exact Gr.sE (by assumption) _ _ _ | exact Gr.sP (by assumption) _ _ _ | exact Gr.sN (by assumption) _ | exact Gr.sA (by assumption) _ _ | exact Gr.sB (by assumption) | exact Gr.sS (by assumption) _ _ _ _) (fun _ _ => ?_)
    | refine G_drf (fun _ => ?_)
    | refine G_bndO (fun _ => ?_)
    | refine G_bndI (fun _ => ?_)
    | refine G_bndN (fun _ => ?_)
    | refine G_opt ?_ (fun _ => ?_)
    | exact G_retZ (by assumption)
    | exact G_retZX (by assumption)
    | refine G_L_C (fun _ _ => ?_) (fun _ _ _ _ => ?_) (fun _ _ => ?_)
    | refine G_J_C (fun _ _ => ?_) (fun _ _ => ?_)
    | refine G_L_IC (fun _ _ _ => ?_) (fun _ _ _ _ _ => ?_) (fun _ _ => ?_)
    | refine G_J_IC (fun _ _ _ => ?_) (fun _ _ => ?_)
    | refine G_cal (gr_fX8_sections _ _) (by assumption) (fun _ _ _ => ?_)
    | refine G_calx (gr_fX8_sections _ _) (by assumption) (fun _ _ _ => ?_)
    | exact gr_fX8_sections _ _
    | refine G_cal (gr_fX8_clear _ _) (by assumption) (fun _ _ _ => ?_)
    | refine G_calx (gr_fX8_clear _ _) (by assumption) (fun _ _ _ => ?_)
    | exact gr_fX8_clear _ _
    | refine G_cal (gr_fX8_sameSection _ _ _ _) (by assumption) (fun _ _ _ => ?_)
    | refine G_calx (gr_fX8_sameSection _ _ _ _) (by assumption) (fun _ _ _ => ?_)
    | exact gr_fX8_sameSection _ _ _ _
    | refine G_cal (gr_fX8_addSection _ _ _ _) (by assumption) (fun _ _ _ => ?_)
    | refine G_calx (gr_fX8_addSection _ _ _ _) (by assumption) (fun _ _ _ => ?_)
    | exact gr_fX8_addSection _ _ _ _
    | solve_by_elim (maxDepth := 3))
set_option maxHeartbeats 16000000 in
set_option maxRecDepth 100000 in
theorem gr_fX11_edit (a0 : Nat) (a1 : Int) (a2 : Int) (a3 : Int) (C : Cd) : GO C (fX11_edit a0 a1 a2 a3 C) := by
  unfold fX11_edit
  have hC0 : Gr C C := Gr.rf C
  repeat' (with_reducible first
    | exact G_none
    | exact G_some (by assumption)
    | exact G_some (Gr.sB (by assumption))
    | refine G_ite ?_ ?_
    | refine G_bndC (by first | assumption | exact Gr.sI (by assumption) _ _ _ | exact Gr.sR (by assumption) _ _ _ | exact Gr.sE (by assumption) _ _ _ | exact Gr.sP (by assumption) _ _ _ | exact Gr.sN (by assumption) _ | exact Gr.sA (by assumption) _ _ | exact Gr.sB (by assumption) | exact Gr.sS (by assumption) _ _ _ _) (fun _ _ => ?_)
    | refine G_drf (fun _ => ?_)
    | refine G_bndO (fun _ => ?_)
    | refine G_bndI (fun _ => ?_)
    | refine G_bndN (fun _ => ?_)
    | refine G_opt ?_ (fun _ => ?_)
    | exact G_retZ (by assumption)
    | exact G_retZX (by assumption)
    | refine G_L_C (fun _ _ => ?_) (fun _ _ _ _ => ?_) (fun _ _ => ?_)
    | refine G_J_C (fun _ _ => ?_) (fun _ _ => ?_)
    | refine G_L_IC (fun _ _ _ => ?_) (fun _ _ _ _ _ => ?_) (fun _ _ => ?_)
    | refine G_J_IC (fun _ _ _ => ?_) (fun _ _ => ?_)
    | refine G_L_OIC (fun _ _ _ _ => ?_) (fun _ _ _ _ _ _ => ?_) (fun _ _ => ?_)
    | refine G_J_OIC (fun _ _ _ _ => ?_) (fun _ _ => ?_)
    | refine G_cal (gr_fX11_pageOf _ _ _) (by assumption) (fun _ _ _ => ?_)
    | refine G_calx (gr_fX11_pageOf _ _ _) (by assumption) (fun _ _ _ => ?_)
    | exact gr_fX11_pageOf _ _ _
    | refine G_cal (gr_fX3_indexOf _ _ _) (by assumption) (fun _ _ _ => ?_)
    | refine G_calx (gr_fX3_indexOf _ _ _) (by assumption) (fun _ _ _ => ?_)
    | exact gr_fX3_indexOf _ _ _
    | refine G_cal (gr_fX3_versionAtIndex _ _ _) (by assumption) (fun _ _ _ => ?_)
    | refine G_calx (gr_fX3_versionAtIndex _ _ _) (by assumption) (fun _ _ _ => ?_)
    | exact gr_fX3_versionAtIndex _ _ _
    | refine G_cal (gr_fX8_sections _ _) (by assumption) (fun _ _ _ => ?_)
    | refine G_calx (gr_fX8_sections _ _) (by assumption) (fun _ _ _ => ?_)
    | exact gr_fX8_sections _ _
    | refine G_cal (gr_fX11_mean _ _ _ _) (by assumption) (fun _ _ _ => ?_)
    | refine G_calx (gr_fX11_mean _ _ _ _) (by assumption) (fun _ _ _ => ?_)
    | exact gr_fX11_mean _ _ _ _
    | refine G_cal (gr_fX11_mayActAt _ _ _) (by assumption) (fun _ _ _ => ?_)
    | refine G_calx (gr_fX11_mayActAt _ _ _) (by assumption) (fun _ _ _ => ?_)
    | exact gr_fX11_mayActAt _ _ _
    | refine G_cal (gr_fX8_isText _ _) (by assumption) (fun _ _ _ => ?_)
    | refine G_calx (gr_fX8_isText _ _) (by assumption) (fun _ _ _ => ?_)
    | exact gr_fX8_isText _ _
    | refine G_cal (gr_fX8_sameAs _ _ _) (by assumption) (fun _ _ _ => ?_)
    | refine G_calx (gr_fX8_sameAs _ _ _) (by assumption) (fun _ _ _ => ?_)
    | exact gr_fX8_sameAs _ _ _
    | refine G_cal (gr_fX11_addNextVersion _ _ _ _ _) (by assumption) (fun _ _ _ => ?_)
    | refine G_calx (gr_fX11_addNextVersion _ _ _ _ _) (by assumption) (fun _ _ _ => ?_)
    | exact gr_fX11_addNextVersion _ _ _ _ _
    | refine G_cal (gr_fX8_clear _ _) (by assumption) (fun _ _ _ => ?_)
    | refine G_calx (gr_fX8_clear _ _) (by assumption) (fun _ _ _ => ?_)
    | exact gr_fX8_clear _ _
    | refine G_cal (gr_fX11_merge _ _ _ _ _ _) (by assumption) (fun _ _ _ => ?_)
    | refine G_calx (gr_fX11_merge _ _ _ _ _ _) (by assumption) (fun _ _ _ => ?_)
    | exact gr_fX11_merge _ _ _ _ _ _
    | solve_by_elim (maxDepth := 3))
set_option maxHeartbeats 16000000 in
set_option maxRecDepth 100000 in
theorem gr_fX11_moduleOf (a0 : Nat) (a1 : Int) (C : Cd) : GO C (fX11_moduleOf a0 a1 C) := by
  unfold fX11_moduleOf
  have hC0 : Gr C C := Gr.rf C
  repeat' (with_reducible first
    | exact G_none
    | exact G_some (by assumption)
    | exact G_some (Gr.sB (by assumption))
    | refine G_ite ?_ ?_
    | refine G_bndC (by first | assumption | exact Gr.sI (by assumption) _ _ _ | exact Gr.sR (by assumption) _ _ _ | exact Gr.sE (by assumption) _ _ _ | exact Gr.sP (by assumption) _ _ _ | exact Gr.sN (by assumption) _ | exact Gr.sA (by assumption) _ _ | exact Gr.sB (by assumption) | exact Gr.sS (by assumption) _ _ _ _) (fun _ _ => ?_)
    | refine G_drf (fun _ => ?_)
    | refine G_bndO (fun _ => ?_)
    | refine G_bndI (fun _ => ?_)
    | refine G_bndN (fun _ => ?_)
    | refine G_opt ?_ (fun _ => ?_)
    | exact G_retZ (by assumption)
    | exact G_retZX (by assumption)
    | refine G_L_C (fun _ _ => ?_) (fun _ _ _ _ => ?_) (fun _ _ => ?_)
    | refine G_J_C (fun _ _ => ?_) (fun _ _ => ?_)
    | solve_by_elim (maxDepth := 3))
set_option maxHeartbeats 16000000 in
set_option maxRecDepth 100000 in
theorem gr_fX11_noteModuleChange (a0 : Nat) (a1 : Int) (C : Cd) : GO C (fX11_noteModuleChange a0 a1 C) := by
  unfold fX11_noteModuleChange
  have hC0 : Gr C C := Gr.rf C
  repeat' (with_reducible first
    | exact G_none
    | exact G_some (by assumption)
    | exact G_some (Gr.sB (by assumption))
    | refine G_ite ?_ ?_
    | refine G_bndC (by first | assumption | exact Gr.sI (by assumption) _ _ _ | exact Gr.sR (by assumption) _ _ _ | exact Gr.sE (by assumption) _ _ _ | exact Gr.sP (by assumption) _ _ _ | exact Gr.sN (by assumption) _ | exact Gr.sA (by assumption) _ _ | exact Gr.sB (by assumption) | exact Gr.sS (by assumption) _ _ _ _) (fun _ _ => ?_)
    | refine G_drf (fun _ => ?_)
    | refine G_bndO (fun _ => ?_)
    | refine G_bndI (fun _ => ?_)
    | refine G_bndN (fun _ => ?_)
    | refine G_opt ?_ (fun _ => ?_)
    | exact G_retZ (by assumption)
    | exact G_retZX (by assumption)
    | refine G_L_C (fun _ _ => ?_) (fun _ _ _ _ => ?_) (fun _ _ => ?_)
    | refine G_J_C (fun _ _ => ?_) (fun _ _ => ?_)
    | refine G_L_IC (fun _ _ _ => ?_) (fun _ _ _ _ _ => ?_) (fun _ _ => ?_)
    | refine G_J_IC (fun _ _ _ => ?_) (fun _ _ => ?_)
    | refine G_cal (gr_fX11_has _ _ _) (by assumption) (fun _ _ _ => ?_)
    | refine G_calx (gr_fX11_has _ _ _) (by assumption) (fun _ _ _ => ?_)
    | exact gr_fX11_has _ _ _
    | solve_by_elim (maxDepth := 3))
set_option maxHeartbeats 16000000 in
set_option maxRecDepth 100000 in
theorem gr_fX11_empty (a0 : Nat) (a1 : Int) (C : Cd) : GO C (fX11_empty a0 a1 C) := by
  unfold fX11_empty
  have hC0 : Gr C C := Gr.rf C
  repeat' (with_reducible first
    | exact G_none
    | exact G_some (by assumption)
    | exact G_some (Gr.sB (by assumption))
    | refine G_ite ?_ ?_
    | refine G_bndC (by first | assumption | exact Gr.sI (by assumption) _ _ _ | exact Gr.sR (by assumption) _ _ _ | exact Gr.sE (by assumption) _ _ _ | exact Gr.sP (by assumption) _ _ _ | exact Gr.sN (by assumption) _ | exact Gr.sA (by assumption) _ _ | exact Gr.sB (by assumption) | exact Gr.sS (by assumption) _ _ _ _) (fun _ _ => ?_)
    | refine G_drf (fun _ => ?_)
    | refine G_bndO (fun _ => ?_)
    | refine G_bndI (fun _ => ?_)
    | refine G_bndN (fun _ => ?_)
    | refine G_opt ?_ (fun _ => ?_)
    | exact G_retZ (by assumption)
    | exact G_retZX (by assumption)
    | refine G_L_C (fun _ _ => ?_) (fun _ _ _ _ => ?_) (fun _ _ => ?_)
    | refine G_J_C (fun _ _ => ?_) (fun _ _ => ?_)
    | refine G_cal (gr_fX11_moduleOf _ _ _) (by assumption) (fun _ _ _ => ?_)
    | refine G_calx (gr_fX11_moduleOf _ _ _) (by assumption) (fun _ _ _ => ?_)
    | exact gr_fX11_moduleOf _ _ _
    | refine G_cal (gr_fX11_noteModuleChange _ _ _) (by assumption) (fun _ _ _ => ?_)
    | refine G_calx (gr_fX11_noteModuleChange _ _ _) (by assumption) (fun _ _ _ => ?_)
    | exact gr_fX11_noteModuleChange _ _ _
    | solve_by_elim (maxDepth := 3))
set_option maxHeartbeats 16000000 in
set_option maxRecDepth 100000 in
theorem gr_fX11_firstInQueue (a0 : Nat) (C : Cd) : GO C (fX11_firstInQueue a0 C) := by
  unfold fX11_firstInQueue
  have hC0 : Gr C C := Gr.rf C
  repeat' (with_reducible first
    | exact G_none
    | exact G_some (by assumption)
    | exact G_some (Gr.sB (by assumption))
    | refine G_ite ?_ ?_
    | refine G_bndC (by first | assumption | exact Gr.sI (by assumption) _ _ _ | exact Gr.sR (by assumption) _ _ _ | exact Gr.sE (by assumption) _ _ _ | exact Gr.sP (by assumption) _ _ _ | exact Gr.sN (by assumption) _ | exact Gr.sA (by assumption) _ _ | exact Gr.sB (by assumption) | exact Gr.sS (by assumption) _ _ _ _) (fun _ _ => ?_)
    | refine G_drf (fun _ => ?_)
    | refine G_bndO (fun _ => ?_)
    | refine G_bndI (fun _ => ?_)
    | refine G_bndN (fun _ => ?_)
    | refine G_opt ?_ (fun _ => ?_)
    | exact G_retZ (by assumption)
    | exact G_retZX (by assumption)
    | refine G_L_IIC (fun _ _ _ _ => ?_) (fun _ _ _ _ _ _ => ?_) (fun _ _ => ?_)
    | refine G_J_IIC (fun _ _ _ _ => ?_) (fun _ _ => ?_)
    | refine G_L_IIIC (fun _ _ _ _ _ => ?_) (fun _ _ _ _ _ _ _ => ?_) (fun _ _ => ?_)
    | refine G_J_IIIC (fun _ _ _ _ _ => ?_) (fun _ _ => ?_)
    | refine G_cal (gr_fX9_waits _ _) (by assumption) (fun _ _ _ => ?_)
    | refine G_calx (gr_fX9_waits _ _) (by assumption) (fun _ _ _ => ?_)
    | exact gr_fX9_waits _ _
    | solve_by_elim (maxDepth := 3))
set_option maxHeartbeats 16000000 in
set_option maxRecDepth 100000 in
theorem gr_fX11_refuseOtherLanguages (a0 : Nat) (a1 : Int) (C : Cd) : GO C (fX11_refuseOtherLanguages a0 a1 C) := by
  unfold fX11_refuseOtherLanguages
  have hC0 : Gr C C := Gr.rf C
  repeat' (with_reducible first
    | exact G_none
    | exact G_some (by assumption)
    | exact G_some (Gr.sB (by assumption))
    | refine G_ite ?_ ?_
    | refine G_bndC (by first | assumption | exact Gr.sI (by assumption) _ _ _ | exact Gr.sR (by assumption) _ _ _ | exact Gr.sE (by assumption) _ _ _ | exact Gr.sP (by assumption) _ _ _ | exact Gr.sN (by assumption) _ | exact Gr.sA (by assumption) _ _ | exact Gr.sB (by assumption) | exact Gr.sS (by assumption) _ _ _ _) (fun _ _ => ?_)
    | refine G_drf (fun _ => ?_)
    | refine G_bndO (fun _ => ?_)
    | refine G_bndI (fun _ => ?_)
    | refine G_bndN (fun _ => ?_)
    | refine G_opt ?_ (fun _ => ?_)
    | exact G_retZ (by assumption)
    | exact G_retZX (by assumption)
    | refine G_L_C (fun _ _ => ?_) (fun _ _ _ _ => ?_) (fun _ _ => ?_)
    | refine G_J_C (fun _ _ => ?_) (fun _ _ => ?_)
    | solve_by_elim (maxDepth := 3))
set_option maxHeartbeats 16000000 in
set_option maxRecDepth 100000 in
theorem gr_fX11_inLanguage (a0 : Nat) (a1 : Int) (a2 : Int) (C : Cd) : GO C (fX11_inLanguage a0 a1 a2 C) := by
  unfold fX11_inLanguage
  have hC0 : Gr C C := Gr.rf C
  repeat' (with_reducible first
    | exact G_none
    | exact G_some (by assumption)
    | exact G_some (Gr.sB (by assumption))
    | refine G_ite ?_ ?_
    | refine G_bndC (by first | assumption | exact Gr.sI (by assumption) _ _ _ | exact Gr.sR (by assumption) _ _ _ | exact Gr.sE (by assumption) _ _ _ | exact Gr.sP (by assumption) _ _ _ | exact Gr.sN (by assumption) _ | exact Gr.sA (by assumption) _ _ | exact Gr.sB (by assumption) | exact Gr.sS (by assumption) _ _ _ _) (fun _ _ => ?_)
    | refine G_drf (fun _ => ?_)
    | refine G_bndO (fun _ => ?_)
    | refine G_bndI (fun _ => ?_)
    | refine G_bndN (fun _ => ?_)
    | refine G_opt ?_ (fun _ => ?_)
    | exact G_retZ (by assumption)
    | exact G_retZX (by assumption)
    | refine G_L_C (fun _ _ => ?_) (fun _ _ _ _ => ?_) (fun _ _ => ?_)
    | refine G_J_C (fun _ _ => ?_) (fun _ _ => ?_)
    | refine G_L_IC (fun _ _ _ => ?_) (fun _ _ _ _ _ => ?_) (fun _ _ => ?_)
    | refine G_J_IC (fun _ _ _ => ?_) (fun _ _ => ?_)
    | refine G_cal (gr_fX11_titleOf _ _ _) (by assumption) (fun _ _ _ => ?_)
    | refine G_calx (gr_fX11_titleOf _ _ _) (by assumption) (fun _ _ _ => ?_)
    | exact gr_fX11_titleOf _ _ _
    | refine G_cal (gr_fX11_refuseOtherLanguages _ _ _) (by assumption) (fun _ _ _ => ?_)
    | refine G_calx (gr_fX11_refuseOtherLanguages _ _ _) (by assumption) (fun _ _ _ => ?_)
    | exact gr_fX11_refuseOtherLanguages _ _ _
    | solve_by_elim (maxDepth := 3))
set_option maxHeartbeats 16000000 in
set_option maxRecDepth 100000 in
theorem gr_fX11_init (a0 : Nat) (C : Cd) : GO C (fX11_init a0 C) := by
  unfold fX11_init
  have hC0 : Gr C C := Gr.rf C
  repeat' (with_reducible first
    | exact G_none
    | exact G_some (by assumption)
    | exact G_some (Gr.sB (by assumption))
    | refine G_ite ?_ ?_
    | refine G_bndC (by first | assumption | exact Gr.sI (by assumption) _ _ _ | exact Gr.sR (by assumption) _ _ _ | exact Gr.sE (by assumption) _ _ _ | exact Gr.sP (by assumption) _ _ _ | exact Gr.sN (by assumption) _ | exact Gr.sA (by assumption) _ _ | exact Gr.sB (by assumption) | exact Gr.sS (by assumption) _ _ _ _) (fun _ _ => ?_)
    | refine G_drf (fun _ => ?_)
    | refine G_bndO (fun _ => ?_)
    | refine G_bndI (fun _ => ?_)
    | refine G_bndN (fun _ => ?_)
    | refine G_opt ?_ (fun _ => ?_)
    | exact G_retZ (by assumption)
    | exact G_retZX (by assumption)
    | refine G_cal (gr_fX1_init _ _) (by assumption) (fun _ _ _ => ?_)
    | refine G_calx (gr_fX1_init _ _) (by assumption) (fun _ _ _ => ?_)
    | exact gr_fX1_init _ _
    | refine G_cal (gr_fX8_init _ _ _) (by assumption) (fun _ _ _ => ?_)
    | refine G_calx (gr_fX8_init _ _ _) (by assumption) (fun _ _ _ => ?_)
    | exact gr_fX8_init _ _ _
    | solve_by_elim (maxDepth := 3))
set_option maxHeartbeats 16000000 in
set_option maxRecDepth 100000 in
theorem gr_fX11_isAmong (a0 : Nat) (a1 : Nat) (a2 : Int) (a3 : Int) (C : Cd) : GO C (fX11_isAmong a0 a1 a2 a3 C) := by
  unfold fX11_isAmong
  have hC0 : Gr C C := Gr.rf C
  repeat' (with_reducible first
    | exact G_none
    | exact G_some (by assumption)
    | exact G_some (Gr.sB (by assumption))
    | refine G_ite ?_ ?_
    | refine G_bndC (by first | assumption | exact Gr.sI (by assumption) _ _ _ | exact Gr.sR (by assumption) _ _ _ | exact Gr.sE (by assumption) _ _ _ | exact Gr.sP (by assumption) _ _ _ | exact Gr.sN (by assumption) _ | exact Gr.sA (by assumption) _ _ | exact Gr.sB (by assumption) | exact Gr.sS (by assumption) _ _ _ _) (fun _ _ => ?_)
    | refine G_drf (fun _ => ?_)
    | refine G_bndO (fun _ => ?_)
    | refine G_bndI (fun _ => ?_)
    | refine G_bndN (fun _ => ?_)
    | refine G_opt ?_ (fun _ => ?_)
    | exact G_retZ (by assumption)
    | exact G_retZX (by assumption)
    | refine G_L_C (fun _ _ => ?_) (fun _ _ _ _ => ?_) (fun _ _ => ?_)
    | refine G_J_C (fun _ _ => ?_) (fun _ _ => ?_)
    | refine G_L_IC (fun _ _ _ => ?_) (fun _ _ _ _ _ => ?_) (fun _ _ => ?_)
    | refine G_J_IC (fun _ _ _ => ?_) (fun _ _ => ?_)
    | solve_by_elim (maxDepth := 3))
set_option maxHeartbeats 16000000 in
set_option maxRecDepth 100000 in
theorem gr_fX11_instruct (a0 : Nat) (a1 : Int) (a2 : Int) (a3 : Int) (C : Cd) : GO C (fX11_instruct a0 a1 a2 a3 C) := by
  unfold fX11_instruct
  have hC0 : Gr C C := Gr.rf C
  repeat' (with_reducible first
    | exact G_none
    | exact G_some (by assumption)
    | exact G_some (Gr.sB (by assumption))
    | refine G_ite ?_ ?_
    | refine G_bndC (by first | assumption | exact Gr.sI (by assumption) _ _ _ | exact Gr.sR (by assumption) _ _ _ | exact Gr.sE (by assumption) _ _ _ | exact Gr.sP (by assumption) _ _ _ | exact Gr.sN (by assumption) _ | exact Gr.sA (by assumption) _ _ | exact Gr.sB (by assumption) | exact Gr.sS (by assumption) _ _ _ _) (fun _ _ => ?_)
    | refine G_drf (fun _ => ?_)
    | refine G_bndO (fun _ => ?_)
    | refine G_bndI (fun _ => ?_)
    | refine G_bndN (fun _ => ?_)
    | refine G_opt ?_ (fun _ => ?_)
    | exact G_retZ (by assumption)
    | exact G_retZX (by assumption)
    | refine G_cal (gr_fX11_moduleOf _ _ _) (by assumption) (fun _ _ _ => ?_)
    | refine G_calx (gr_fX11_moduleOf _ _ _) (by assumption) (fun _ _ _ => ?_)
    | exact gr_fX11_moduleOf _ _ _
    | refine G_cal (gr_fX11_isAmong _ _ _ _ _) (by assumption) (fun _ _ _ => ?_)
    | refine G_calx (gr_fX11_isAmong _ _ _ _ _) (by assumption) (fun _ _ _ => ?_)
    | exact gr_fX11_isAmong _ _ _ _ _
    | refine G_cal (gr_fX7_add _ _ _ _) (by assumption) (fun _ _ _ => ?_)
    | refine G_calx (gr_fX7_add _ _ _ _) (by assumption) (fun _ _ _ => ?_)
    | exact gr_fX7_add _ _ _ _
    | refine G_cal (gr_fX11_noteModuleChange _ _ _) (by assumption) (fun _ _ _ => ?_)
    | refine G_calx (gr_fX11_noteModuleChange _ _ _) (by assumption) (fun _ _ _ => ?_)
    | exact gr_fX11_noteModuleChange _ _ _
    | solve_by_elim (maxDepth := 3))
set_option maxHeartbeats 16000000 in
set_option maxRecDepth 100000 in
theorem gr_fX11_isOutdated (a0 : Nat) (a1 : Int) (a2 : Int) (C : Cd) : GO C (fX11_isOutdated a0 a1 a2 C) := by
  unfold fX11_isOutdated
  have hC0 : Gr C C := Gr.rf C
  repeat' (with_reducible first
    | exact G_none
    | exact G_some (by assumption)
    | exact G_some (Gr.sB (by assumption))
    | refine G_ite ?_ ?_
    | refine G_bndC (by first | assumption | exact Gr.sI (by assumption) _ _ _ | exact Gr.sR (by assumption) _ _ _ | exact Gr.sE (by assumption) _ _ _ | exact Gr.sP (by assumption) _ _ _ | exact Gr.sN (by assumption) _ | exact Gr.sA (by assumption) _ _ | exact Gr.sB (by assumption) | exact Gr.sS (by assumption) _ _ _ _) (fun _ _ => ?_)
    | refine G_drf (fun _ => ?_)
    | refine G_bndO (fun _ => ?_)
    | refine G_bndI (fun _ => ?_)
    | refine G_bndN (fun _ => ?_)
    | refine G_opt ?_ (fun _ => ?_)
    | exact G_retZ (by assumption)
    | exact G_retZX (by assumption)
    | refine G_L_C (fun _ _ => ?_) (fun _ _ _ _ => ?_) (fun _ _ => ?_)
    | refine G_J_C (fun _ _ => ?_) (fun _ _ => ?_)
    | refine G_L_IC (fun _ _ _ => ?_) (fun _ _ _ _ _ => ?_) (fun _ _ => ?_)
    | refine G_J_IC (fun _ _ _ => ?_) (fun _ _ => ?_)
    | refine G_cal (gr_fX11_titleOf _ _ _) (by assumption) (fun _ _ _ => ?_)
    | refine G_calx (gr_fX11_titleOf _ _ _) (by assumption) (fun _ _ _ => ?_)
    | exact gr_fX11_titleOf _ _ _
    | refine G_cal (gr_fX11_refuseOtherLanguages _ _ _) (by assumption) (fun _ _ _ => ?_)
    | refine G_calx (gr_fX11_refuseOtherLanguages _ _ _) (by assumption) (fun _ _ _ => ?_)
    | exact gr_fX11_refuseOtherLanguages _ _ _
    | solve_by_elim (maxDepth := 3))
set_option maxHeartbeats 16000000 in
set_option maxRecDepth 100000 in
theorem gr_fX11_isStale (a0 : Nat) (a1 : Int) (C : Cd) : GO C (fX11_isStale a0 a1 C) := by
  unfold fX11_isStale
  have hC0 : Gr C C := Gr.rf C
  repeat' (with_reducible first
    | exact G_none
    | exact G_some (by assumption)
    | exact G_some (Gr.sB (by assumption))
    | refine G_ite ?_ ?_
    | refine G_bndC (by first | assumption | exact Gr.sI (by assumption) _ _ _ | exact Gr.sR (by assumption) _ _ _ | exact Gr.sE (by assumption) _ _ _ | exact Gr.sP (by assumption) _ _ _ | exact Gr.sN (by assumption) _ | exact Gr.sA (by assumption) _ _ | exact Gr.sB (by assumption) | exact Gr.sS (by assumption) _ _ _ _) (fun _ _ => ?_)
    | refine G_drf (fun _ => ?_)
    | refine G_bndO (fun _ => ?_)
    | refine G_bndI (fun _ => ?_)
    | refine G_bndN (fun _ => ?_)
    | refine G_opt ?_ (fun _ => ?_)
    | exact G_retZ (by assumption)
    | exact G_retZX (by assumption)
    | refine G_cal (gr_fX11_pageOf _ _ _) (by assumption) (fun _ _ _ => ?_)
    | refine G_calx (gr_fX11_pageOf _ _ _) (by assumption) (fun _ _ _ => ?_)
    | exact gr_fX11_pageOf _ _ _
    | refine G_cal (gr_fX9_waits _ _) (by assumption) (fun _ _ _ => ?_)
    | refine G_calx (gr_fX9_waits _ _) (by assumption) (fun _ _ _ => ?_)
    | exact gr_fX9_waits _ _
    | solve_by_elim (maxDepth := 3))
set_option maxHeartbeats 16000000 in
set_option maxRecDepth 100000 in
theorem gr_fX11_leads (a0 : Nat) (a1 : Int) (C : Cd) : GO C (fX11_leads a0 a1 C) := by
  unfold fX11_leads
  have hC0 : Gr C C := Gr.rf C
  repeat' (with_reducible first
    | exact G_none
    | exact G_some (by assumption)
    | exact G_some (Gr.sB (by assumption))
    | refine G_ite ?_ ?_
    | refine G_bndC (by first | assumption | exact Gr.sI (by assumption) _ _ _ | exact Gr.sR (by assumption) _ _ _ | exact Gr.sE (by assumption) _ _ _ | exact Gr.sP (by assumption) _ _ _ | exact Gr.sN (by assumption) _ | exact Gr.sA (by assumption) _ _ | exact Gr.sB (by assumption) | exact Gr.sS (by assumption) _ _ _ _) (fun _ _ => ?_)
    | refine G_drf (fun _ => ?_)
    | refine G_bndO (fun _ => ?_)
    | refine G_bndI (fun _ => ?_)
    | refine G_bndN (fun _ => ?_)
    | refine G_opt ?_ (fun _ => ?_)
    | exact G_retZ (by assumption)
    | exact G_retZX (by assumption)
    | refine G_cal (gr_fX11_titleOf _ _ _) (by assumption) (fun _ _ _ => ?_)
    | refine G_calx (gr_fX11_titleOf _ _ _) (by assumption) (fun _ _ _ => ?_)
    | exact gr_fX11_titleOf _ _ _
    | refine G_cal (gr_fX1_goalOf _ _ _ _) (by assumption) (fun _ _ _ => ?_)
    | refine G_calx (gr_fX1_goalOf _ _ _ _) (by assumption) (fun _ _ _ => ?_)
    | exact gr_fX1_goalOf _ _ _ _
    | solve_by_elim (maxDepth := 3))
set_option maxHeartbeats 16000000 in
set_option maxRecDepth 100000 in
theorem gr_fX11_linkingTo (a0 : Nat) (a1 : Int) (C : Cd) : GO C (fX11_linkingTo a0 a1 C) := by
  unfold fX11_linkingTo
  have hC0 : Gr C C := Gr.rf C
  repeat' (with_reducible first
    | exact G_none
    | exact G_some (by assumption)
    | exact G_some (Gr.sB (by assumption))
    | refine G_ite ?_ ?_
    | refine G_bndC (by first | assumption | exact Gr.sI (by assumption) _ _ _ | exact Gr.sR (by assumption) _ _ _ | exact Gr.sE (by assumption) _ _ _ | exact Gr.sP (by assumption) _ _ _ | exact Gr.sN (by assumption) _ | exact Gr.sA (by assumption) _ _ | exact Gr.sB (by assumption) | exact Gr.sS (by assumption) _ _ _ _) (fun _ _ => ?_)
    | refine G_drf (fun _ => ?_)
    | refine G_bndO (fun _ => ?_)
    | refine G_bndI (fun _ => ?_)
    | refine G_bndN (fun _ => ?_)
    | refine G_opt ?_ (fun _ => ?_)
    | exact G_retZ (by assumption)
    | exact G_retZX (by assumption)
    | refine G_L_IC (fun _ _ _ => ?_) (fun _ _ _ _ _ => ?_) (fun _ _ => ?_)
    | refine G_J_IC (fun _ _ _ => ?_) (fun _ _ => ?_)
    | refine G_L_IIC (fun _ _ _ _ => ?_) (fun _ _ _ _ _ _ => ?_) (fun _ _ => ?_)
    | refine G_J_IIC (fun _ _ _ _ => ?_) (fun _ _ => ?_)
    | refine G_cal (gr_fX11_has _ _ _) (by assumption) (fun _ _ _ => ?_)
    | refine G_calx (gr_fX11_has _ _ _) (by assumption) (fun _ _ _ => ?_)
    | exact gr_fX11_has _ _ _
    | solve_by_elim (maxDepth := 3))
set_option maxHeartbeats 16000000 in
set_option maxRecDepth 100000 in
theorem gr_fX11_linked (a0 : Nat) (a1 : Int) (a2 : Int) (C : Cd) : GO C (fX11_linked a0 a1 a2 C) := by
  unfold fX11_linked
  have hC0 : Gr C C := Gr.rf C
  repeat' (with_reducible first
    | exact G_none
    | exact G_some (by assumption)
    | exact G_some (Gr.sB (by assumption))
    | refine G_ite ?_ ?_
    | refine G_bndC (by first | assumption | exact Gr.sI (by assumption) _ _ _ | exact Gr.sR (by assumption) _ _ _ | exact Gr.sE (by assumption) _ _ _ | exact Gr.sP (by assumption) _ _ _ | exact Gr.sN (by assumption) _ | exact Gr.sA (by assumption) _ _ | exact Gr.sB (by assumption) | exact Gr.sS (by assumption) _ _ _ _) (fun _ _ => ?_)
    | refine G_drf (fun _ => ?_)
    | refine G_bndO (fun _ => ?_)
    | refine G_bndI (fun _ => ?_)
    | refine G_bndN (fun _ => ?_)
    | refine G_opt ?_ (fun _ => ?_)
    | exact G_retZ (by assumption)
    | exact G_retZX (by assumption)
    | refine G_cal (gr_fX11_titleOf _ _ _) (by assumption) (fun _ _ _ => ?_)
    | refine G_calx (gr_fX11_titleOf _ _ _) (by assumption) (fun _ _ _ => ?_)
    | exact gr_fX11_titleOf _ _ _
    | refine G_cal (gr_fX11_linkingTo _ _ _) (by assumption) (fun _ _ _ => ?_)
    | refine G_calx (gr_fX11_linkingTo _ _ _) (by assumption) (fun _ _ _ => ?_)
    | exact gr_fX11_linkingTo _ _ _
    | solve_by_elim (maxDepth := 3))
set_option maxHeartbeats 16000000 in
set_option maxRecDepth 100000 in
theorem gr_fX11_lonelyTitles (a0 : Nat) (C : Cd) : GO C (fX11_lonelyTitles a0 C) := by
  unfold fX11_lonelyTitles
  have hC0 : Gr C C := Gr.rf C
  repeat' (with_reducible first
    | exact G_none
    | exact G_some (by assumption)
    | exact G_some (Gr.sB (by assumption))
    | refine G_ite ?_ ?_
    | refine G_bndC (by first | assumption | exact Gr.sI (by assumption) _ _ _ | exact Gr.sR (by assumption) _ _ _ | exact Gr.sE (by assumption) _ _ _ | exact Gr.sP (by assumption) _ _ _ | exact Gr.sN (by assumption) _ | exact Gr.sA (by assumption) _ _ | exact Gr.sB (by assumption) | exact Gr.sS (by assumption) _ _ _ _) (fun _ _ => ?_)
    | refine G_drf (fun _ => ?_)
    | refine G_bndO (fun _ => ?_)
    | refine G_bndI (fun _ => ?_)
    | refine G_bndN (fun _ => ?_)
    | refine G_opt ?_ (fun _ => ?_)
    | exact G_retZ (by assumption)
    | exact G_retZX (by assumption)
    | refine G_L_IC (fun _ _ _ => ?_) (fun _ _ _ _ _ => ?_) (fun _ _ => ?_)
    | refine G_J_IC (fun _ _ _ => ?_) (fun _ _ => ?_)
    | refine G_L_IIC (fun _ _ _ _ => ?_) (fun _ _ _ _ _ _ => ?_) (fun _ _ => ?_)
    | refine G_J_IIC (fun _ _ _ _ => ?_) (fun _ _ => ?_)
    | refine G_cal (gr_fX1_goalOf _ _ _ _) (by assumption) (fun _ _ _ => ?_)
    | refine G_calx (gr_fX1_goalOf _ _ _ _) (by assumption) (fun _ _ _ => ?_)
    | exact gr_fX1_goalOf _ _ _ _
    | refine G_cal (gr_fX11_linkingTo _ _ _) (by assumption) (fun _ _ _ => ?_)
    | refine G_calx (gr_fX11_linkingTo _ _ _) (by assumption) (fun _ _ _ => ?_)
    | exact gr_fX11_linkingTo _ _ _
    | refine G_cal (gr_fX8_isRedirect _ _) (by assumption) (fun _ _ _ => ?_)
    | refine G_calx (gr_fX8_isRedirect _ _) (by assumption) (fun _ _ _ => ?_)
    | exact gr_fX8_isRedirect _ _
    | solve_by_elim (maxDepth := 3))
set_option maxHeartbeats 16000000 in
set_option maxRecDepth 100000 in
theorem gr_fX11_mayActInTree (a0 : Nat) (a1 : Int) (C : Cd) : GO C (fX11_mayActInTree a0 a1 C) := by
  unfold fX11_mayActInTree
  have hC0 : Gr C C := Gr.rf C
  repeat' (with_reducible first
    | exact G_none
    | exact G_some (by assumption)
    | exact G_some (Gr.sB (by assumption))
    | refine G_ite ?_ ?_
    | refine G_bndC (by first | assumption | exact Gr.sI (by assumption) _ _ _ | exact Gr.sR (by assumption) _ _ _ | exact Gr.sE (by assumption) _ _ _ | exact Gr.sP (by assumption) _ _ _ | exact Gr.sN (by assumption) _ | exact Gr.sA (by assumption) _ _ | exact Gr.sB (by assumption) | exact Gr.sS (by assumption) _ _ _ _) (fun _ _ => ?_)
    | refine G_drf (fun _ => ?_)
    | refine G_bndO (fun _ => ?_)
    | refine G_bndI (fun _ => ?_)
    | refine G_bndN (fun _ => ?_)
    | refine G_opt ?_ (fun _ => ?_)
    | exact G_retZ (by assumption)
    | exact G_retZX (by assumption)
    | refine G_L_C (fun _ _ => ?_) (fun _ _ _ _ => ?_) (fun _ _ => ?_)
    | refine G_J_C (fun _ _ => ?_) (fun _ _ => ?_)
    | refine G_L_IC (fun _ _ _ => ?_) (fun _ _ _ _ _ => ?_) (fun _ _ => ?_)
    | refine G_J_IC (fun _ _ _ => ?_) (fun _ _ => ?_)
    | refine G_cal (gr_fX11_mayActAt _ _ _) (by assumption) (fun _ _ _ => ?_)
    | refine G_calx (gr_fX11_mayActAt _ _ _) (by assumption) (fun _ _ _ => ?_)
    | exact gr_fX11_mayActAt _ _ _
    | solve_by_elim (maxDepth := 3))
set_option maxHeartbeats 16000000 in
set_option maxRecDepth 100000 in
theorem gr_fX11_members (a0 : Nat) (a1 : Int) (C : Cd) : GO C (fX11_members a0 a1 C) := by
  unfold fX11_members
  have hC0 : Gr C C := Gr.rf C
  repeat' (with_reducible first
    | exact G_none
    | exact G_some (by assumption)
    | exact G_some (Gr.sB (by assumption))
    | refine G_ite ?_ ?_
    | refine G_bndC (by first | assumption | exact Gr.sI (by assumption) _ _ _ | exact Gr.sR (by assumption) _ _ _ | exact Gr.sE (by assumption) _ _ _ | exact Gr.sP (by assumption) _ _ _ | exact Gr.sN (by assumption) _ | exact Gr.sA (by assumption) _ _ | exact Gr.sB (by assumption) | exact Gr.sS (by assumption) _ _ _ _) (fun _ _ => ?_)
    | refine G_drf (fun _ => ?_)
    | refine G_bndO (fun _ => ?_)
    | refine G_bndI (fun _ => ?_)
    | refine G_bndN (fun _ => ?_)
    | refine G_opt ?_ (fun _ => ?_)
    | exact G_retZ (by assumption)
    | exact G_retZX (by assumption)
    | refine G_L_C (fun _ _ => ?_) (fun _ _ _ _ => ?_) (fun _ _ => ?_)
    | refine G_J_C (fun _ _ => ?_) (fun _ _ => ?_)
    | refine G_cal (gr_fX11_membersOf _ _ _) (by assumption) (fun _ _ _ => ?_)
    | refine G_calx (gr_fX11_membersOf _ _ _) (by assumption) (fun _ _ _ => ?_)
    | exact gr_fX11_membersOf _ _ _
    | solve_by_elim (maxDepth := 3))
set_option maxHeartbeats 16000000 in
set_option maxRecDepth 100000 in
theorem gr_fX11_move (a0 : Nat) (a1 : Int) (a2 : Int) (C : Cd) : GO C (fX11_move a0 a1 a2 C) := by
  unfold fX11_move
  have hC0 : Gr C C := Gr.rf C
  repeat' (with_reducible first
    | exact G_none
    | exact G_some (by assumption)
    | exact G_some (Gr.sB (by assumption))
    | refine G_ite ?_ ?_
    | refine G_bndC (by first | assumption | exact Gr.sI (by assumption) _ _ _ | exact Gr.sR (by assumption) _ _ _ | exact Gr.sE (by assumption) _ _ _ | exact Gr.sP (by assumption) _ _ _ | exact Gr.sN (by assumption) _ | exact Gr.sA (by assumption) _ _ | exact Gr.sB (by assumption) | exact Gr.sS (by assumption) _ _ _ _) (fun _ _ => ?_)
    | refine G_drf (fun _ => ?_)
    | refine G_bndO (fun _ => ?_)
    | refine G_bndI (fun _ => ?_)
    | refine G_bndN (fun _ => ?_)
    | refine G_opt ?_ (fun _ => ?_)
    | exact G_retZ (by assumption)
    | exact G_retZX (by assumption)
    | refine G_L_C (fun _ _ => ?_) (fun _ _ _ _ => ?_) (fun _ _ => ?_)
    | refine G_J_C (fun _ _ => ?_) (fun _ _ => ?_)
    | refine G_cal (gr_fX11_titleOf _ _ _) (by assumption) (fun _ _ _ => ?_)
    | refine G_calx (gr_fX11_titleOf _ _ _) (by assumption) (fun _ _ _ => ?_)
    | exact gr_fX11_titleOf _ _ _
    | refine G_cal (gr_fX11_mayActAt _ _ _) (by assumption) (fun _ _ _ => ?_)
    | refine G_calx (gr_fX11_mayActAt _ _ _) (by assumption) (fun _ _ _ => ?_)
    | exact gr_fX11_mayActAt _ _ _
    | refine G_cal (gr_fX11_bringOver _ _ _ _) (by assumption) (fun _ _ _ => ?_)
    | refine G_calx (gr_fX11_bringOver _ _ _ _) (by assumption) (fun _ _ _ => ?_)
    | exact gr_fX11_bringOver _ _ _ _
    | refine G_cal (gr_fX8_clear _ _) (by assumption) (fun _ _ _ => ?_)
    | refine G_calx (gr_fX8_clear _ _) (by assumption) (fun _ _ _ => ?_)
    | exact gr_fX8_clear _ _
    | refine G_cal (gr_fX8_add _ _ _) (by assumption) (fun _ _ _ => ?_)
    | refine G_calx (gr_fX8_add _ _ _) (by assumption) (fun _ _ _ => ?_)
    | exact gr_fX8_add _ _ _
    | refine G_cal (gr_fX11_makePage _ _ _ _) (by assumption) (fun _ _ _ => ?_)
    | refine G_calx (gr_fX11_makePage _ _ _ _) (by assumption) (fun _ _ _ => ?_)
    | exact gr_fX11_makePage _ _ _ _
    | solve_by_elim (maxDepth := 3))
set_option maxHeartbeats 16000000 in
set_option maxRecDepth 100000 in
theorem gr_fX11_pagesOfTree (a0 : Nat) (a1 : Int) (C : Cd) : GO C (fX11_pagesOfTree a0 a1 C) := by
  unfold fX11_pagesOfTree
  have hC0 : Gr C C := Gr.rf C
  repeat' (with_reducible first
    | exact G_none
    | exact G_some (by assumption)
    | exact G_some (Gr.sB (by assumption))
    | refine G_ite ?_ ?_
    | refine G_bndC (by first | assumption | exact Gr.sI (by assumption) _ _ _ | exact Gr.sR (by assumption) _ _ _ | exact Gr.sE (by assumption) _ _ _ | exact Gr.sP (by assumption) _ _ _ | exact Gr.sN (by assumption) _ | exact Gr.sA (by assumption) _ _ | exact Gr.sB (by assumption) | exact Gr.sS (by assumption) _ _ _ _) (fun _ _ => ?_)
    | refine G_drf (fun _ => ?_)
    | refine G_bndO (fun _ => ?_)
    | refine G_bndI (fun _ => ?_)
    | refine G_bndN (fun _ => ?_)
    | refine G_opt ?_ (fun _ => ?_)
    | exact G_retZ (by assumption)
    | exact G_retZX (by assumption)
    | refine G_L_IC (fun _ _ _ => ?_) (fun _ _ _ _ _ => ?_) (fun _ _ => ?_)
    | refine G_J_IC (fun _ _ _ => ?_) (fun _ _ => ?_)
    | refine G_L_IIC (fun _ _ _ _ => ?_) (fun _ _ _ _ _ _ => ?_) (fun _ _ => ?_)
    | refine G_J_IIC (fun _ _ _ _ => ?_) (fun _ _ => ?_)
    | solve_by_elim (maxDepth := 3))
set_option maxHeartbeats 16000000 in
set_option maxRecDepth 100000 in
theorem gr_fX11_pagesLeadingInto (a0 : Nat) (a1 : Int) (C : Cd) : GO C (fX11_pagesLeadingInto a0 a1 C) := by
  unfold fX11_pagesLeadingInto
  have hC0 : Gr C C := Gr.rf C
  repeat' (with_reducible first
    | exact G_none
    | exact G_some (by assumption)
    | exact G_some (Gr.sB (by assumption))
    | refine G_ite ?_ ?_
    | refine G_bndC (by first | assumption | exact Gr.sI (by assumption) _ _ _ | exact Gr.sR (by assumption) _ _ _ | exact Gr.sE (by assumption) _ _ _ | exact Gr.sP (by assumption) _ _ _ | exact Gr.sN (by assumption) _ | exact Gr.sA (by assumption) _ _ | exact Gr.sB (by assumption) | exact Gr.sS (by assumption) _ _ _ _) (fun _ _ => ?_)
    | refine G_drf (fun _ => ?_)
    | refine G_bndO (fun _ => ?_)
    | refine G_bndI (fun _ => ?_)
    | refine G_bndN (fun _ => ?_)
    | refine G_opt ?_ (fun _ => ?_)
    | exact G_retZ (by assumption)
    | exact G_retZX (by assumption)
    | refine G_L_IC (fun _ _ _ => ?_) (fun _ _ _ _ _ => ?_) (fun _ _ => ?_)
    | refine G_J_IC (fun _ _ _ => ?_) (fun _ _ => ?_)
    | refine G_L_IIC (fun _ _ _ _ => ?_) (fun _ _ _ _ _ _ => ?_) (fun _ _ => ?_)
    | refine G_J_IIC (fun _ _ _ _ => ?_) (fun _ _ => ?_)
    | refine G_cal (gr_fX8_leadsInto_ _ _ _) (by assumption) (fun _ _ _ => ?_)
    | refine G_calx (gr_fX8_leadsInto_ _ _ _) (by assumption) (fun _ _ _ => ?_)
    | exact gr_fX8_leadsInto_ _ _ _
    | solve_by_elim (maxDepth := 3))
theorem gr_fX11_moveTree (a0 : Nat) (a1 : Int) (a2 : Int) (C : Cd) : GO C (fX11_moveTree a0 a1 a2 C) := by
  unfold fX11_moveTree
  have hC0 : Gr C C := Gr.rf C
  refine G_J_C (fun C2 h2 => G_some (Gr.sB h2)) (fun J20 h20 => ?_)
  refine G_ite (h20 _ hC0) (G_ite (h20 _ hC0) (G_ite (h20 _ hC0) (G_ite ?_ (h20 _ hC0))))
  refine G_ite ?_ G_none
  refine G_cal (gr_fX11_pagesOfTree _ _ _) hC0 (fun r2 C1 h1 => ?_)
  refine G_ite ?_ G_none
  refine G_cal (gr_fX11_pagesLeadingInto _ _ _) h1 (fun r4 C3 h3 => ?_)
  refine G_J_C (fun C2 h2 => G_some (Gr.sB h2)) (fun J83 h83 => ?_)
  refine G_ite (h83 _ h3) (G_ite (G_cal (gr_fX11_pagesOfTree _ _ _) h3 (fun r6 C5 h5 => ?_)) G_none)
  refine G_ite (h83 _ h5) (G_ite (G_cal (gr_fX11_mayActInTree _ _ _) h5 (fun r8 C7 h7 => ?_)) G_none)
  refine G_ite (h83 _ h7) (G_ite (G_cal (gr_fX11_mayActInTree _ _ _) h7 (fun r10 C9 h9 => ?_)) G_none)
  refine G_ite (h83 _ h9) (G_ite (G_ite ?_ (h83 _ h9)) G_none)
  refine G_bndI (fun x5 => ?_)
  refine G_L_IC (fun _ _ _ => G_none) (fun L103 hL v6 C103 hC103 => ?_) (fun J hJ => hJ _ _ h9)
  · refine G_ite (G_bndO (fun z11 => G_drf (fun p12 => G_ite (G_ite ?_ ?_) G_none))) G_none
    · refine G_L_IC (fun _ _ _ => G_none) (fun L142 hL142 v142 C142 h142 => ?_) (fun J hJ => hJ _ _ hC103)
      · refine G_ite (G_bndO (fun z13 => G_drf (fun p14 => G_ite (G_ite ?_ ?_) G_none))) G_none
        · exact G_some h142
        · refine G_ite (G_bndO (fun z15 => G_drf (fun p16 => G_ite (G_bndO (fun z17 => G_drf (fun p18 => G_ite (G_bndO (fun z19 => ?_)) G_none))) G_none))) G_none
          refine G_J_C (fun C2 h2 => hL142 _ _ h2) (fun J215 hJ => ?_)
          refine G_opt (hJ _ h142) (fun p20 => ?_)
          refine G_ite (G_bndO (fun z21 => G_drf (fun p22 => G_ite (G_bndO (fun z23 => G_drf (fun p24 => G_ite (G_cal (gr_fX8_leadsInto_ _ _ _) h142 (fun r26 C25 h25 => G_ite (hJ _ h25) ?_)) G_none))) G_none))) G_none
          refine G_ite (G_bndO (fun z27 => G_drf (fun p28 => G_ite (G_bndO (fun z29 => G_ite (G_bndO (fun z30 => G_drf (fun p31 => G_ite (G_cal (gr_fX8_writeLeadingOn _ _ _ _ _) h25 (fun r33 C32 h32 => G_ite (G_bndO (fun z34 => G_ite (G_cal (gr_fX11_addNextVersion _ _ _ _ _) h32 (fun r36 C35 h35 => hJ _ h35)) G_none)) G_none)) G_none))) G_none)) G_none))) G_none
    · refine G_cal (gr_fX11_has _ _ _) hC103 (fun r38 C37 h37 => ?_)
      refine G_J_C (fun C2 h2 => hL _ _ h2) (fun J133 hJ => ?_)
      exact G_ite (hJ _ h37) (G_ite (G_calx (gr_fX11_bringOver _ _ _ _) h37 (fun r40 C39 h39 => hJ _ h39)) G_none)
set_option maxHeartbeats 16000000 in
set_option maxRecDepth 100000 in
theorem gr_fX11_wantedTitles (a0 : Nat) (C : Cd) : GO C (fX11_wantedTitles a0 C) := by
  unfold fX11_wantedTitles
  have hC0 : Gr C C := Gr.rf C
  repeat' (with_reducible first
    | exact G_none
    | exact G_some (by assumption)
    | exact G_some (Gr.sB (by assumption))
    | refine G_ite ?_ ?_
    | refine G_bndC (by first | assumption | exact Gr.sI (by assumption) _ _ _ | exact Gr.sR (by assumption) _ _ _ | exact Gr.sE (by assumption) _ _ _ | exact Gr.sP (by assumption) _ _ _ | exact Gr.sN (by assumption) _ | exact Gr.sA (by assumption) _ _ | exact Gr.sB (by assumption) | exact Gr.sS (by assumption) _ _ _ _) (fun _ _ => ?_)
    | refine G_drf (fun _ => ?_)
    | refine G_bndO (fun _ => ?_)
    | refine G_bndI (fun _ => ?_)
    | refine G_bndN (fun _ => ?_)
    | refine G_opt ?_ (fun _ => ?_)
    | exact G_retZ (by assumption)
    | exact G_retZX (by assumption)
    | refine G_L_IC (fun _ _ _ => ?_) (fun _ _ _ _ _ => ?_) (fun _ _ => ?_)
    | refine G_J_IC (fun _ _ _ => ?_) (fun _ _ => ?_)
    | refine G_L_IIC (fun _ _ _ _ => ?_) (fun _ _ _ _ _ _ => ?_) (fun _ _ => ?_)
    | refine G_J_IIC (fun _ _ _ _ => ?_) (fun _ _ => ?_)
    | refine G_cal (gr_fX11_linkingTo _ _ _) (by assumption) (fun _ _ _ => ?_)
    | refine G_calx (gr_fX11_linkingTo _ _ _) (by assumption) (fun _ _ _ => ?_)
    | exact gr_fX11_linkingTo _ _ _
    | solve_by_elim (maxDepth := 3))
set_option maxHeartbeats 16000000 in
set_option maxRecDepth 100000 in
theorem gr_fX11_odd (a0 : Nat) (a1 : Int) (C : Cd) : GO C (fX11_odd a0 a1 C) := by
  unfold fX11_odd
  have hC0 : Gr C C := Gr.rf C
  repeat' (with_reducible first
    | exact G_none
    | exact G_some (by assumption)
    | exact G_some (Gr.sB (by assumption))
    | refine G_ite ?_ ?_
    | refine G_bndC (by first | assumption | exact Gr.sI (by assumption) _ _ _ | exact Gr.sR (by assumption) _ _ _ | exact Gr.sE (by assumption) _ _ _ | exact Gr.sP (by assumption) _ _ _ | exact Gr.sN (by assumption) _ | exact Gr.sA (by assumption) _ _ | exact Gr.sB (by assumption) | exact Gr.sS (by assumption) _ _ _ _) (fun _ _ => ?_)
    | refine G_drf (fun _ => ?_)
    | refine G_bndO (fun _ => ?_)
    | refine G_bndI (fun _ => ?_)
    | refine G_bndN (fun _ => ?_)
    | refine G_opt ?_ (fun _ => ?_)
    | exact G_retZ (by assumption)
    | exact G_retZX (by assumption)
    | refine G_L_IC (fun _ _ _ => ?_) (fun _ _ _ _ _ => ?_) (fun _ _ => ?_)
    | refine G_J_IC (fun _ _ _ => ?_) (fun _ _ => ?_)
    | refine G_cal (gr_fX11_lonelyTitles _ _) (by assumption) (fun _ _ _ => ?_)
    | refine G_calx (gr_fX11_lonelyTitles _ _) (by assumption) (fun _ _ _ => ?_)
    | exact gr_fX11_lonelyTitles _ _
    | refine G_cal (gr_fX11_wantedTitles _ _) (by assumption) (fun _ _ _ => ?_)
    | refine G_calx (gr_fX11_wantedTitles _ _) (by assumption) (fun _ _ _ => ?_)
    | exact gr_fX11_wantedTitles _ _
    | solve_by_elim (maxDepth := 3))
set_option maxHeartbeats 16000000 in
set_option maxRecDepth 100000 in
theorem gr_fX11_protect (a0 : Nat) (a1 : Int) (a2 : Int) (C : Cd) : GO C (fX11_protect a0 a1 a2 C) := by
  unfold fX11_protect
  have hC0 : Gr C C := Gr.rf C
  repeat' (with_reducible first
    | exact G_none
    | exact G_some (by assumption)
    | exact G_some (Gr.sB (by assumption))
    | refine G_ite ?_ ?_
    | refine G_bndC (by first | assumption | exact Gr.sI (by assumption) _ _ _ | exact Gr.sR (by assumption) _ _ _ | exact Gr.sE (by assumption) _ _ _ | exact Gr.sP (by assumption) _ _ _ | exact Gr.sN (by assumption) _ | exact Gr.sA (by assumption) _ _ | exact Gr.sB (by assumption) | exact Gr.sS (by assumption) _ _ _ _) (fun _ _ => ?_)
    | refine G_drf (fun _ => ?_)
    | refine G_bndO (fun _ => ?_)
    | refine G_bndI (fun _ => ?_)
    | refine G_bndN (fun _ => ?_)
    | refine G_opt ?_ (fun _ => ?_)
    | exact G_retZ (by assumption)
    | exact G_retZX (by assumption)
    | refine G_L_C (fun _ _ => ?_) (fun _ _ _ _ => ?_) (fun _ _ => ?_)
    | refine G_J_C (fun _ _ => ?_) (fun _ _ => ?_)
    | refine G_cal (gr_fX11_titleOf _ _ _) (by assumption) (fun _ _ _ => ?_)
    | refine G_calx (gr_fX11_titleOf _ _ _) (by assumption) (fun _ _ _ => ?_)
    | exact gr_fX11_titleOf _ _ _
    | refine G_cal (gr_fX11_mayActAt _ _ _) (by assumption) (fun _ _ _ => ?_)
    | refine G_calx (gr_fX11_mayActAt _ _ _) (by assumption) (fun _ _ _ => ?_)
    | exact gr_fX11_mayActAt _ _ _
    | solve_by_elim (maxDepth := 3))
set_option maxHeartbeats 16000000 in
set_option maxRecDepth 100000 in
theorem gr_fX11_queued (a0 : Nat) (C : Cd) : GO C (fX11_queued a0 C) := by
  unfold fX11_queued
  have hC0 : Gr C C := Gr.rf C
  repeat' (with_reducible first
    | exact G_none
    | exact G_some (by assumption)
    | exact G_some (Gr.sB (by assumption))
    | refine G_ite ?_ ?_
    | refine G_bndC (by first | assumption | exact Gr.sI (by assumption) _ _ _ | exact Gr.sR (by assumption) _ _ _ | exact Gr.sE (by assumption) _ _ _ | exact Gr.sP (by assumption) _ _ _ | exact Gr.sN (by assumption) _ | exact Gr.sA (by assumption) _ _ | exact Gr.sB (by assumption) | exact Gr.sS (by assumption) _ _ _ _) (fun _ _ => ?_)
    | refine G_drf (fun _ => ?_)
    | refine G_bndO (fun _ => ?_)
    | refine G_bndI (fun _ => ?_)
    | refine G_bndN (fun _ => ?_)
    | refine G_opt ?_ (fun _ => ?_)
    | exact G_retZ (by assumption)
    | exact G_retZX (by assumption)
    | refine G_L_IC (fun _ _ _ => ?_) (fun _ _ _ _ _ => ?_) (fun _ _ => ?_)
    | refine G_J_IC (fun _ _ _ => ?_) (fun _ _ => ?_)
    | refine G_L_IIC (fun _ _ _ _ => ?_) (fun _ _ _ _ _ _ => ?_) (fun _ _ => ?_)
    | refine G_J_IIC (fun _ _ _ _ => ?_) (fun _ _ => ?_)
    | refine G_cal (gr_fX9_waits _ _) (by assumption) (fun _ _ _ => ?_)
    | refine G_calx (gr_fX9_waits _ _) (by assumption) (fun _ _ _ => ?_)
    | exact gr_fX9_waits _ _
    | solve_by_elim (maxDepth := 3))
set_option maxHeartbeats 16000000 in
set_option maxRecDepth 100000 in
theorem gr_fX11_rank (a0 : Nat) (a1 : Int) (a2 : Int) (C : Cd) : GO C (fX11_rank a0 a1 a2 C) := by
  unfold fX11_rank
  have hC0 : Gr C C := Gr.rf C
  repeat' (with_reducible first
    | exact G_none
    | exact G_some (by assumption)
    | exact G_some (Gr.sB (by assumption))
    | refine G_ite ?_ ?_
    | refine G_bndC (by first | assumption | exact Gr.sI (by assumption) _ _ _ | exact Gr.sR (by assumption) _ _ _ | exact Gr.sE (by assumption) _ _ _ | exact Gr.sP (by assumption) _ _ _ | exact Gr.sN (by assumption) _ | exact Gr.sA (by assumption) _ _ | exact Gr.sB (by assumption) | exact Gr.sS (by assumption) _ _ _ _) (fun _ _ => ?_)
    | refine G_drf (fun _ => ?_)
    | refine G_bndO (fun _ => ?_)
    | refine G_bndI (fun _ => ?_)
    | refine G_bndN (fun _ => ?_)
    | refine G_opt ?_ (fun _ => ?_)
    | exact G_retZ (by assumption)
    | exact G_retZX (by assumption)
    | refine G_L_C (fun _ _ => ?_) (fun _ _ _ _ => ?_) (fun _ _ => ?_)
    | refine G_J_C (fun _ _ => ?_) (fun _ _ => ?_)
    | refine G_cal (gr_fX11_titleOf _ _ _) (by assumption) (fun _ _ _ => ?_)
    | refine G_calx (gr_fX11_titleOf _ _ _) (by assumption) (fun _ _ _ => ?_)
    | exact gr_fX11_titleOf _ _ _
    | solve_by_elim (maxDepth := 3))
set_option maxHeartbeats 16000000 in
set_option maxRecDepth 100000 in
theorem gr_fX11_render (a0 : Nat) (a1 : Int) (a2 : Option Nat) (C : Cd) : GO C (fX11_render a0 a1 a2 C) := by
  unfold fX11_render
  have hC0 : Gr C C := Gr.rf C
  repeat' (with_reducible first
    | exact G_none
    | exact G_some (by assumption)
    | exact G_some (Gr.sB (by assumption))
    | refine G_ite ?_ ?_
    | refine G_bndC (by first | assumption | exact Gr.sI (by assumption) _ _ _ | exact Gr.sR (by assumption) _ _ _ | exact Gr.sE (by assumption) _ _ _ | exact Gr.sP (by assumption) _ _ _ | exact Gr.sN (by assumption) _ | exact Gr.sA (by assumption) _ _ | exact Gr.sB (by assumption) | exact Gr.sS (by assumption) _ _ _ _) (fun _ _ => ?_)
    | refine G_drf (fun _ => ?_)
    | refine G_bndO (fun _ => ?_)
    | refine G_bndI (fun _ => ?_)
    | refine G_bndN (fun _ => ?_)
    | refine G_opt ?_ (fun _ => ?_)
    | exact G_retZ (by assumption)
    | exact G_retZX (by assumption)
    | refine G_cal (gr_fX1_expand _ _ _ _ _) (by assumption) (fun _ _ _ => ?_)
    | refine G_calx (gr_fX1_expand _ _ _ _ _) (by assumption) (fun _ _ _ => ?_)
    | exact gr_fX1_expand _ _ _ _ _
    | refine G_cal (gr_fX4_take _ _ _) (by assumption) (fun _ _ _ => ?_)
    | refine G_calx (gr_fX4_take _ _ _) (by assumption) (fun _ _ _ => ?_)
    | exact gr_fX4_take _ _ _
    | refine G_cal (gr_fX11_noteMemberChange _ _ _) (by assumption) (fun _ _ _ => ?_)
    | refine G_calx (gr_fX11_noteMemberChange _ _ _) (by assumption) (fun _ _ _ => ?_)
    | exact gr_fX11_noteMemberChange _ _ _
    | solve_by_elim (maxDepth := 3))
set_option maxHeartbeats 16000000 in
set_option maxRecDepth 100000 in
theorem gr_fX11_read (a0 : Nat) (a1 : Int) (a2 : Int) (C : Cd) : GO C (fX11_read a0 a1 a2 C) := by
  unfold fX11_read
  have hC0 : Gr C C := Gr.rf C
  repeat' (with_reducible first
    | exact G_none
    | exact G_some (by assumption)
    | exact G_some (Gr.sB (by assumption))
    | refine G_ite ?_ ?_
    | refine G_bndC (by first | assumption | exact Gr.sI (by assumption) _ _ _ | exact Gr.sR (by assumption) _ _ _ | exact Gr.sE (by assumption) _ _ _ | exact Gr.sP (by assumption) _ _ _ | exact Gr.sN (by assumption) _ | exact Gr.sA (by assumption) _ _ | exact Gr.sB (by assumption) | exact Gr.sS (by assumption) _ _ _ _) (fun _ _ => ?_)
    | refine G_drf (fun _ => ?_)
    | refine G_bndO (fun _ => ?_)
    | refine G_bndI (fun _ => ?_)
    | refine G_bndN (fun _ => ?_)
    | refine G_opt ?_ (fun _ => ?_)
    | exact G_retZ (by assumption)
    | exact G_retZX (by assumption)
    | refine G_L_C (fun _ _ => ?_) (fun _ _ _ _ => ?_) (fun _ _ => ?_)
    | refine G_J_C (fun _ _ => ?_) (fun _ _ => ?_)
    | refine G_cal (gr_fX11_pageOf _ _ _) (by assumption) (fun _ _ _ => ?_)
    | refine G_calx (gr_fX11_pageOf _ _ _) (by assumption) (fun _ _ _ => ?_)
    | exact gr_fX11_pageOf _ _ _
    | refine G_cal (gr_fX11_render _ _ _ _) (by assumption) (fun _ _ _ => ?_)
    | refine G_calx (gr_fX11_render _ _ _ _) (by assumption) (fun _ _ _ => ?_)
    | exact gr_fX11_render _ _ _ _
    | solve_by_elim (maxDepth := 3))
set_option maxHeartbeats 16000000 in
set_option maxRecDepth 100000 in
theorem gr_fX11_shown (a0 : Nat) (a1 : Int) (a2 : Int) (C : Cd) : GO C (fX11_shown a0 a1 a2 C) := by
  unfold fX11_shown
  have hC0 : Gr C C := Gr.rf C
  repeat' (with_reducible first
    | exact G_none
    | exact G_some (by assumption)
    | exact G_some (Gr.sB (by assumption))
    | refine G_ite ?_ ?_
    | refine G_bndC (by first | assumption | exact Gr.sI (by assumption) _ _ _ | exact Gr.sR (by assumption) _ _ _ | exact Gr.sE (by assumption) _ _ _ | exact Gr.sP (by assumption) _ _ _ | exact Gr.sN (by assumption) _ | exact Gr.sA (by assumption) _ _ | exact Gr.sB (by assumption) | exact Gr.sS (by assumption) _ _ _ _) (fun _ _ => ?_)
    | refine G_drf (fun _ => ?_)
    | refine G_bndO (fun _ => ?_)
    | refine G_bndI (fun _ => ?_)
    | refine G_bndN (fun _ => ?_)
    | refine G_opt ?_ (fun _ => ?_)
    | exact G_retZ (by assumption)
    | exact G_retZX (by assumption)
    | refine G_cal (gr_fX11_pageOf _ _ _) (by assumption) (fun _ _ _ => ?_)
    | refine G_calx (gr_fX11_pageOf _ _ _) (by assumption) (fun _ _ _ => ?_)
    | exact gr_fX11_pageOf _ _ _
    | refine G_cal (gr_fX11_refuseBelowZero _ _ _) (by assumption) (fun _ _ _ => ?_)
    | refine G_calx (gr_fX11_refuseBelowZero _ _ _) (by assumption) (fun _ _ _ => ?_)
    | exact gr_fX11_refuseBelowZero _ _ _
    | refine G_cal (gr_fX5_at _ _ _) (by assumption) (fun _ _ _ => ?_)
    | refine G_calx (gr_fX5_at _ _ _) (by assumption) (fun _ _ _ => ?_)
    | exact gr_fX5_at _ _ _
    | solve_by_elim (maxDepth := 3))
set_option maxHeartbeats 16000000 in
set_option maxRecDepth 100000 in
theorem gr_fX11_shownAnew (a0 : Nat) (a1 : Int) (a2 : Int) (C : Cd) : GO C (fX11_shownAnew a0 a1 a2 C) := by
  unfold fX11_shownAnew
  have hC0 : Gr C C := Gr.rf C
  repeat' (with_reducible first
    | exact G_none
    | exact G_some (by assumption)
    | exact G_some (Gr.sB (by assumption))
    | refine G_ite ?_ ?_
    | refine G_bndC (by first | assumption | exact Gr.sI (by assumption) _ _ _ | exact Gr.sR (by assumption) _ _ _ | exact Gr.sE (by assumption) _ _ _ | exact Gr.sP (by assumption) _ _ _ | exact Gr.sN (by assumption) _ | exact Gr.sA (by assumption) _ _ | exact Gr.sB (by assumption) | exact Gr.sS (by assumption) _ _ _ _) (fun _ _ => ?_)
    | refine G_drf (fun _ => ?_)
    | refine G_bndO (fun _ => ?_)
    | refine G_bndI (fun _ => ?_)
    | refine G_bndN (fun _ => ?_)
    | refine G_opt ?_ (fun _ => ?_)
    | exact G_retZ (by assumption)
    | exact G_retZX (by assumption)
    | refine G_cal (gr_fX11_pageOf _ _ _) (by assumption) (fun _ _ _ => ?_)
    | refine G_calx (gr_fX11_pageOf _ _ _) (by assumption) (fun _ _ _ => ?_)
    | exact gr_fX11_pageOf _ _ _
    | refine G_cal (gr_fX11_refuseBelowZero _ _ _) (by assumption) (fun _ _ _ => ?_)
    | refine G_calx (gr_fX11_refuseBelowZero _ _ _) (by assumption) (fun _ _ _ => ?_)
    | exact gr_fX11_refuseBelowZero _ _ _
    | refine G_cal (gr_fX1_expand _ _ _ _ _) (by assumption) (fun _ _ _ => ?_)
    | refine G_calx (gr_fX1_expand _ _ _ _ _) (by assumption) (fun _ _ _ => ?_)
    | exact gr_fX1_expand _ _ _ _ _
    | refine G_cal (gr_fX5_at _ _ _) (by assumption) (fun _ _ _ => ?_)
    | refine G_calx (gr_fX5_at _ _ _) (by assumption) (fun _ _ _ => ?_)
    | exact gr_fX5_at _ _ _
    | solve_by_elim (maxDepth := 3))
set_option maxHeartbeats 16000000 in
set_option maxRecDepth 100000 in
theorem gr_fX11_token (a0 : Nat) (a1 : Int) (a2 : Int) (C : Cd) : GO C (fX11_token a0 a1 a2 C) := by
  unfold fX11_token
  have hC0 : Gr C C := Gr.rf C
  repeat' (with_reducible first
    | exact G_none
    | exact G_some (by assumption)
    | exact G_some (Gr.sB (by assumption))
    | refine G_ite ?_ ?_
    | refine G_bndC (by first | assumption | exact Gr.sI (by assumption) _ _ _ | exact Gr.sR (by assumption) _ _ _ | exact Gr.sE (by assumption) _ _ _ | exact Gr.sP (by assumption) _ _ _ | exact Gr.sN (by assumption) _ | exact Gr.sA (by assumption) _ _ | exact Gr.sB (by assumption) | exact Gr.sS (by assumption) _ _ _ _) (fun _ _ => ?_)
    | refine G_drf (fun _ => ?_)
    | refine G_bndO (fun _ => ?_)
    | refine G_bndI (fun _ => ?_)
    | refine G_bndN (fun _ => ?_)
    | refine G_opt ?_ (fun _ => ?_)
    | exact G_retZ (by assumption)
    | exact G_retZX (by assumption)
    | refine G_cal (gr_fX11_isAmong _ _ _ _ _) (by assumption) (fun _ _ _ => ?_)
    | refine G_calx (gr_fX11_isAmong _ _ _ _ _) (by assumption) (fun _ _ _ => ?_)
    | exact gr_fX11_isAmong _ _ _ _ _
    | refine G_cal (gr_fX8_add _ _ _) (by assumption) (fun _ _ _ => ?_)
    | refine G_calx (gr_fX8_add _ _ _) (by assumption) (fun _ _ _ => ?_)
    | exact gr_fX8_add _ _ _
    | solve_by_elim (maxDepth := 3))
set_option maxHeartbeats 16000000 in
set_option maxRecDepth 100000 in
theorem gr_fX11_tokenAt (a0 : Nat) (a1 : Int) (a2 : Int) (C : Cd) : GO C (fX11_tokenAt a0 a1 a2 C) := by
  unfold fX11_tokenAt
  have hC0 : Gr C C := Gr.rf C
  repeat' (with_reducible first
    | exact G_none
    | exact G_some (by assumption)
    | exact G_some (Gr.sB (by assumption))
    | refine G_ite ?_ ?_
    | refine G_bndC (by first | assumption | exact Gr.sI (by assumption) _ _ _ | exact Gr.sR (by assumption) _ _ _ | exact Gr.sE (by assumption) _ _ _ | exact Gr.sP (by assumption) _ _ _ | exact Gr.sN (by assumption) _ | exact Gr.sA (by assumption) _ _ | exact Gr.sB (by assumption) | exact Gr.sS (by assumption) _ _ _ _) (fun _ _ => ?_)
    | refine G_drf (fun _ => ?_)
    | refine G_bndO (fun _ => ?_)
    | refine G_bndI (fun _ => ?_)
    | refine G_bndN (fun _ => ?_)
    | refine G_opt ?_ (fun _ => ?_)
    | exact G_retZ (by assumption)
    | exact G_retZX (by assumption)
    | refine G_cal (gr_fX11_pageOf _ _ _) (by assumption) (fun _ _ _ => ?_)
    | refine G_calx (gr_fX11_pageOf _ _ _) (by assumption) (fun _ _ _ => ?_)
    | exact gr_fX11_pageOf _ _ _
    | refine G_cal (gr_fX11_refuseBelowZero _ _ _) (by assumption) (fun _ _ _ => ?_)
    | refine G_calx (gr_fX11_refuseBelowZero _ _ _) (by assumption) (fun _ _ _ => ?_)
    | exact gr_fX11_refuseBelowZero _ _ _
    | refine G_cal (gr_fX8_codeAt _ _ _) (by assumption) (fun _ _ _ => ?_)
    | refine G_calx (gr_fX8_codeAt _ _ _) (by assumption) (fun _ _ _ => ?_)
    | exact gr_fX8_codeAt _ _ _
    | solve_by_elim (maxDepth := 3))
set_option maxHeartbeats 16000000 in
set_option maxRecDepth 100000 in
theorem gr_fX11_translate (a0 : Nat) (a1 : Int) (a2 : Int) (a3 : Int) (C : Cd) : GO C (fX11_translate a0 a1 a2 a3 C) := by
  unfold fX11_translate
  have hC0 : Gr C C := Gr.rf C
  repeat' (with_reducible first
    | exact G_none
    | exact G_some (by assumption)
    | exact G_some (Gr.sB (by assumption))
    | refine G_ite ?_ ?_
    | refine G_bndC (by first | assumption | exact Gr.sI (by assumption) _ _ _ | exact Gr.sR (by assumption) _ _ _ | exact Gr.sE (by assumption) _ _ _ | exact Gr.sP (by assumption) _ _ _ | exact Gr.sN (by assumption) _ | exact Gr.sA (by assumption) _ _ | exact Gr.sB (by assumption) | exact Gr.sS (by assumption) _ _ _ _) (fun _ _ => ?_)
    | refine G_drf (fun _ => ?_)
    | refine G_bndO (fun _ => ?_)
    | refine G_bndI (fun _ => ?_)
    | refine G_bndN (fun _ => ?_)
    | refine G_opt ?_ (fun _ => ?_)
    | exact G_retZ (by assumption)
    | exact G_retZX (by assumption)
    | refine G_L_C (fun _ _ => ?_) (fun _ _ _ _ => ?_) (fun _ _ => ?_)
    | refine G_J_C (fun _ _ => ?_) (fun _ _ => ?_)
    | refine G_cal (gr_fX11_titleOf _ _ _) (by assumption) (fun _ _ _ => ?_)
    | refine G_calx (gr_fX11_titleOf _ _ _) (by assumption) (fun _ _ _ => ?_)
    | exact gr_fX11_titleOf _ _ _
    | refine G_cal (gr_fX11_pageOf _ _ _) (by assumption) (fun _ _ _ => ?_)
    | refine G_calx (gr_fX11_pageOf _ _ _) (by assumption) (fun _ _ _ => ?_)
    | exact gr_fX11_pageOf _ _ _
    | solve_by_elim (maxDepth := 3))
set_option maxHeartbeats 16000000 in
set_option maxRecDepth 100000 in
theorem gr_fX11_undo (a0 : Nat) (a1 : Int) (a2 : Int) (C : Cd) : GO C (fX11_undo a0 a1 a2 C) := by
  unfold fX11_undo
  have hC0 : Gr C C := Gr.rf C
  repeat' (with_reducible first
    | exact G_none
    | exact G_some (by assumption)
    | exact G_some (Gr.sB (by assumption))
    | refine G_ite ?_ ?_
    | refine G_bndC (by first | assumption | exact Gr.sI (by assumption) _ _ _ | exact Gr.sR (by assumption) _ _ _ | exact Gr.sE (by assumption) _ _ _ | exact Gr.sP (by assumption) _ _ _ | exact Gr.sN (by assumption) _ | exact Gr.sA (by assumption) _ _ | exact Gr.sB (by assumption) | exact Gr.sS (by assumption) _ _ _ _) (fun _ _ => ?_)
    | refine G_drf (fun _ => ?_)
    | refine G_bndO (fun _ => ?_)
    | refine G_bndI (fun _ => ?_)
    | refine G_bndN (fun _ => ?_)
    | refine G_opt ?_ (fun _ => ?_)
    | exact G_retZ (by assumption)
    | exact G_retZX (by assumption)
    | refine G_L_C (fun _ _ => ?_) (fun _ _ _ _ => ?_) (fun _ _ => ?_)
    | refine G_J_C (fun _ _ => ?_) (fun _ _ => ?_)
    | refine G_L_IC (fun _ _ _ => ?_) (fun _ _ _ _ _ => ?_) (fun _ _ => ?_)
    | refine G_J_IC (fun _ _ _ => ?_) (fun _ _ => ?_)
    | refine G_cal (gr_fX11_pageOf _ _ _) (by assumption) (fun _ _ _ => ?_)
    | refine G_calx (gr_fX11_pageOf _ _ _) (by assumption) (fun _ _ _ => ?_)
    | exact gr_fX11_pageOf _ _ _
    | refine G_cal (gr_fX3_indexOf _ _ _) (by assumption) (fun _ _ _ => ?_)
    | refine G_calx (gr_fX3_indexOf _ _ _) (by assumption) (fun _ _ _ => ?_)
    | exact gr_fX3_indexOf _ _ _
    | refine G_cal (gr_fX3_versionAtIndex _ _ _) (by assumption) (fun _ _ _ => ?_)
    | refine G_calx (gr_fX3_versionAtIndex _ _ _) (by assumption) (fun _ _ _ => ?_)
    | exact gr_fX3_versionAtIndex _ _ _
    | refine G_cal (gr_fX11_mayActAt _ _ _) (by assumption) (fun _ _ _ => ?_)
    | refine G_calx (gr_fX11_mayActAt _ _ _) (by assumption) (fun _ _ _ => ?_)
    | exact gr_fX11_mayActAt _ _ _
    | refine G_cal (gr_fX8_isText _ _) (by assumption) (fun _ _ _ => ?_)
    | refine G_calx (gr_fX8_isText _ _) (by assumption) (fun _ _ _ => ?_)
    | exact gr_fX8_isText _ _
    | refine G_cal (gr_fX8_sameAs _ _ _) (by assumption) (fun _ _ _ => ?_)
    | refine G_calx (gr_fX8_sameAs _ _ _) (by assumption) (fun _ _ _ => ?_)
    | exact gr_fX8_sameAs _ _ _
    | refine G_cal (gr_fX11_addNextVersion _ _ _ _ _) (by assumption) (fun _ _ _ => ?_)
    | refine G_calx (gr_fX11_addNextVersion _ _ _ _ _) (by assumption) (fun _ _ _ => ?_)
    | exact gr_fX11_addNextVersion _ _ _ _ _
    | refine G_cal (gr_fX11_merge _ _ _ _ _ _) (by assumption) (fun _ _ _ => ?_)
    | refine G_calx (gr_fX11_merge _ _ _ _ _ _) (by assumption) (fun _ _ _ => ?_)
    | exact gr_fX11_merge _ _ _ _ _ _
    | solve_by_elim (maxDepth := 3))
set_option maxHeartbeats 16000000 in
set_option maxRecDepth 100000 in
theorem gr_fX11_versionAt (a0 : Nat) (a1 : Int) (a2 : Int) (C : Cd) : GO C (fX11_versionAt a0 a1 a2 C) := by
  unfold fX11_versionAt
  have hC0 : Gr C C := Gr.rf C
  repeat' (with_reducible first
    | exact G_none
    | exact G_some (by assumption)
    | exact G_some (Gr.sB (by assumption))
    | refine G_ite ?_ ?_
    | refine G_bndC (by first | assumption | exact Gr.sI (by assumption) _ _ _ | exact Gr.sR (by assumption) _ _ _ | exact Gr.sE (by assumption) _ _ _ | exact Gr.sP (by assumption) _ _ _ | exact Gr.sN (by assumption) _ | exact Gr.sA (by assumption) _ _ | exact Gr.sB (by assumption) | exact Gr.sS (by assumption) _ _ _ _) (fun _ _ => ?_)
    | refine G_drf (fun _ => ?_)
    | refine G_bndO (fun _ => ?_)
    | refine G_bndI (fun _ => ?_)
    | refine G_bndN (fun _ => ?_)
    | refine G_opt ?_ (fun _ => ?_)
    | exact G_retZ (by assumption)
    | exact G_retZX (by assumption)
    | refine G_L_OC (fun _ _ _ => ?_) (fun _ _ _ _ _ => ?_) (fun _ _ => ?_)
    | refine G_J_OC (fun _ _ _ => ?_) (fun _ _ => ?_)
    | refine G_cal (gr_fX11_titleOf _ _ _) (by assumption) (fun _ _ _ => ?_)
    | refine G_calx (gr_fX11_titleOf _ _ _) (by assumption) (fun _ _ _ => ?_)
    | exact gr_fX11_titleOf _ _ _
    | refine G_cal (gr_fX3_versionAtIndex _ _ _) (by assumption) (fun _ _ _ => ?_)
    | refine G_calx (gr_fX3_versionAtIndex _ _ _) (by assumption) (fun _ _ _ => ?_)
    | exact gr_fX3_versionAtIndex _ _ _
    | solve_by_elim (maxDepth := 3))
set_option maxHeartbeats 16000000 in
set_option maxRecDepth 100000 in
theorem gr_fX11_versions (a0 : Nat) (a1 : Int) (C : Cd) : GO C (fX11_versions a0 a1 C) := by
  unfold fX11_versions
  have hC0 : Gr C C := Gr.rf C
  repeat' (with_reducible first
    | exact G_none
    | exact G_some (by assumption)
    | exact G_some (Gr.sB (by assumption))
    | refine G_ite ?_ ?_
    | refine G_bndC (by first | assumption | exact Gr.sI (by assumption) _ _ _ | exact Gr.sR (by assumption) _ _ _ | exact Gr.sE (by assumption) _ _ _ | exact Gr.sP (by assumption) _ _ _ | exact Gr.sN (by assumption) _ | exact Gr.sA (by assumption) _ _ | exact Gr.sB (by assumption) | exact Gr.sS (by assumption) _ _ _ _) (fun _ _ => ?_)
    | refine G_drf (fun _ => ?_)
    | refine G_bndO (fun _ => ?_)
    | refine G_bndI (fun _ => ?_)
    | refine G_bndN (fun _ => ?_)
    | refine G_opt ?_ (fun _ => ?_)
    | exact G_retZ (by assumption)
    | exact G_retZX (by assumption)
    | refine G_L_IC (fun _ _ _ => ?_) (fun _ _ _ _ _ => ?_) (fun _ _ => ?_)
    | refine G_J_IC (fun _ _ _ => ?_) (fun _ _ => ?_)
    | refine G_cal (gr_fX11_titleOf _ _ _) (by assumption) (fun _ _ _ => ?_)
    | refine G_calx (gr_fX11_titleOf _ _ _) (by assumption) (fun _ _ _ => ?_)
    | exact gr_fX11_titleOf _ _ _
    | refine G_cal (gr_fAL_size _ _) (by assumption) (fun _ _ _ => ?_)
    | refine G_calx (gr_fAL_size _ _) (by assumption) (fun _ _ _ => ?_)
    | exact gr_fAL_size _ _
    | solve_by_elim (maxDepth := 3))
set_option maxHeartbeats 16000000 in
set_option maxRecDepth 100000 in
theorem gr_fX11_wipe (a0 : Nat) (C : Cd) : GO C (fX11_wipe a0 C) := by
  unfold fX11_wipe
  have hC0 : Gr C C := Gr.rf C
  repeat' (with_reducible first
    | exact G_none
    | exact G_some (by assumption)
    | exact G_some (Gr.sB (by assumption))
    | refine G_ite ?_ ?_
    | refine G_bndC (by first | assumption | exact Gr.sI (by assumption) _ _ _ | exact Gr.sR (by assumption) _ _ _ | exact Gr.sE (by assumption) _ _ _ | exact Gr.sP (by assumption) _ _ _ | exact Gr.sN (by assumption) _ | exact Gr.sA (by assumption) _ _ | exact Gr.sB (by assumption) | exact Gr.sS (by assumption) _ _ _ _) (fun _ _ => ?_)
    | refine G_drf (fun _ => ?_)
    | refine G_bndO (fun _ => ?_)
    | refine G_bndI (fun _ => ?_)
    | refine G_bndN (fun _ => ?_)
    | refine G_opt ?_ (fun _ => ?_)
    | exact G_retZ (by assumption)
    | exact G_retZX (by assumption)
    | refine G_cal (gr_fX8_clear _ _) (by assumption) (fun _ _ _ => ?_)
    | refine G_calx (gr_fX8_clear _ _) (by assumption) (fun _ _ _ => ?_)
    | exact gr_fX8_clear _ _
    | solve_by_elim (maxDepth := 3))
set_option maxHeartbeats 16000000 in
set_option maxRecDepth 100000 in
theorem gr_fX11_work (a0 : Nat) (a1 : Int) (C : Cd) : GO C (fX11_work a0 a1 C) := by
  unfold fX11_work
  have hC0 : Gr C C := Gr.rf C
  repeat' (with_reducible first
    | exact G_none
    | exact G_some (by assumption)
    | exact G_some (Gr.sB (by assumption))
    | refine G_ite ?_ ?_
    | refine G_bndC (by first | assumption | exact Gr.sI (by assumption) _ _ _ | exact Gr.sR (by assumption) _ _ _ | exact Gr.sE (by assumption) _ _ _ | exact Gr.sP (by assumption) _ _ _ | exact Gr.sN (by assumption) _ | exact Gr.sA (by assumption) _ _ | exact Gr.sB (by assumption) | exact Gr.sS (by assumption) _ _ _ _) (fun _ _ => ?_)
    | refine G_drf (fun _ => ?_)
    | refine G_bndO (fun _ => ?_)
    | refine G_bndI (fun _ => ?_)
    | refine G_bndN (fun _ => ?_)
    | refine G_opt ?_ (fun _ => ?_)
    | exact G_retZ (by assumption)
    | exact G_retZX (by assumption)
    | refine G_L_C (fun _ _ => ?_) (fun _ _ _ _ => ?_) (fun _ _ => ?_)
    | refine G_J_C (fun _ _ => ?_) (fun _ _ => ?_)
    | refine G_L_IIC (fun _ _ _ _ => ?_) (fun _ _ _ _ _ _ => ?_) (fun _ _ => ?_)
    | refine G_J_IIC (fun _ _ _ _ => ?_) (fun _ _ => ?_)
    | refine G_cal (gr_fX11_firstInQueue _ _) (by assumption) (fun _ _ _ => ?_)
    | refine G_calx (gr_fX11_firstInQueue _ _) (by assumption) (fun _ _ _ => ?_)
    | exact gr_fX11_firstInQueue _ _
    | refine G_cal (gr_fX11_render _ _ _ _) (by assumption) (fun _ _ _ => ?_)
    | refine G_calx (gr_fX11_render _ _ _ _) (by assumption) (fun _ _ _ => ?_)
    | exact gr_fX11_render _ _ _ _
    | solve_by_elim (maxDepth := 3))
end GROW
