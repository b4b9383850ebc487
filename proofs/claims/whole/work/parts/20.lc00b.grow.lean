/-! WHAT IS MADE STAYS MADE, on -/
section GROW
variable {C0 C : Cd}
set_option maxHeartbeats 16000000 in
set_option maxRecDepth 100000 in
theorem gr_fX1_expand (a0 : Nat) (a1 : Int) (a2 : Option Nat) (a3 : Int) (C : Cd) : GO C (fX1_expand a0 a1 a2 a3 C) := by
  unfold fX1_expand
  have hC0 : Gr C C := Gr.rf C
  repeat' (with_reducible first
    | exact G_none
    | exact G_some (by assumption)
    | exact G_some (Gr.sB (by assumption))
    | refine G_ite ?_ ?_
    | refine G_bndC (by first | assumption | exact Gr.sI (by assumption) _ _ _ | exact Gr.sR (by assumption) _ _ _ | exact Gr.sE (by assumption) _ _ _ | exact Gr.sP (by assumption) _ _ _ | exact Gr.sN (by assumption) _ | exact Gr.sA (by assumption) _ _ | exact Gr.sB (by assumption) | exact Gr.sS (by assumption) _ _ _ _) (fun _ _ => ?_)
    | refine G_drf (fun _ => ?_)
    | refine G_bndO (fun _ => ?_)
    | refine G_bndI (fun _ => ?_)
    | refine G_bndN (fun _ => ?_)
    | refine G_opt ?_ (fun _ => ?_)
    | exact G_retZ (by assumption)
    | exact G_retZX (by assumption)
    | refine G_L_C (fun _ _ => ?_) (fun _ _ _ _ => ?_) (fun _ _ => ?_)
    | refine G_J_C (fun _ _ => ?_) (fun _ _ => ?_)
    | refine G_L_IC (fun _ _ _ => ?_) (fun _ _ _ _ _ => ?_) (fun _ _ => ?_)
    | refine G_J_IC (fun _ _ _ => ?_) (fun _ _ => ?_)
    | refine G_cal (gr_fX4_clear _ _) (by assumption) (fun _ _ _ => ?_)
    | refine G_calx (gr_fX4_clear _ _) (by assumption) (fun _ _ _ => ?_)
    | exact gr_fX4_clear _ _
    | refine G_cal (gr_fX1_openFrame _ _ _ _ _ _) (by assumption) (fun _ _ _ => ?_)
    | refine G_calx (gr_fX1_openFrame _ _ _ _ _ _) (by assumption) (fun _ _ _ => ?_)
    | exact gr_fX1_openFrame _ _ _ _ _ _
    | refine G_cal (gr_fX1_stepOn _ _ _) (by assumption) (fun _ _ _ => ?_)
    | refine G_calx (gr_fX1_stepOn _ _ _) (by assumption) (fun _ _ _ => ?_)
    | exact gr_fX1_stepOn _ _ _
    | solve_by_elim (maxDepth := 3))
set_option maxHeartbeats 16000000 in
set_option maxRecDepth 100000 in
theorem gr_fX4_init (a0 : Nat) (C : Cd) : GO C (fX4_init a0 C) := by
  unfold fX4_init
  have hC0 : Gr C C := Gr.rf C
  repeat' (with_reducible first
    | exact G_none
    | exact G_some (by assumption)
    | exact G_some (Gr.sB (by assumption))
    | refine G_ite ?_ ?_
    | refine G_bndC (by first | assumption | exact Gr.sI (by assumption) _ _ _ | exact Gr.sR (by assumption) _ _ _ | exact Gr.sE (by assumption) _ _ _ | exact Gr.sP (by assumption) _ _ _ | exact Gr.sN (by assumption) _ | exact Gr.sA (by assumption) _ _ | exact Gr.sB (by assumption) | exact Gr.sS (by assumption) _ _ _ _) (fun _ _ => ?_)
    | refine G_drf (fun _ => ?_)
    | refine G_bndO (fun _ => ?_)
    | refine G_bndI (fun _ => ?_)
    | refine G_bndN (fun _ => ?_)
    | refine G_opt ?_ (fun _ => ?_)
    | exact G_retZ (by assumption)
    | exact G_retZX (by assumption)
    | refine G_cal (gr_fX5_init _ _) (by assumption) (fun _ _ _ => ?_)
    | refine G_calx (gr_fX5_init _ _) (by assumption) (fun _ _ _ => ?_)
    | exact gr_fX5_init _ _
    | solve_by_elim (maxDepth := 3))
set_option maxHeartbeats 16000000 in
set_option maxRecDepth 100000 in
theorem gr_fX9_init (a0 : Nat) (C : Cd) : GO C (fX9_init a0 C) := by
  unfold fX9_init
  have hC0 : Gr C C := Gr.rf C
  repeat' (with_reducible first
    | exact G_none
    | exact G_some (by assumption)
    | exact G_some (Gr.sB (by assumption))
    | refine G_ite ?_ ?_
    | refine G_bndC (by first | assumption | exact Gr.sI (by assumption) _ _ _ | exact Gr.sR (by assumption) _ _ _ | exact Gr.sE (by assumption) _ _ _ | exact Gr.sP (by assumption) _ _ _ | exact Gr.sN (by assumption) _ | exact Gr.sA (by assumption) _ _ | exact Gr.sB (by assumption) | exact Gr.sS (by assumption) _ _ _ _) (fun _ _ => ?_)
    | refine G_drf (fun _ => ?_)
    | refine G_bndO (fun _ => ?_)
    | refine G_bndI (fun _ => ?_)
    | refine G_bndN (fun _ => ?_)
    | refine G_opt ?_ (fun _ => ?_)
    | exact G_retZ (by assumption)
    | exact G_retZX (by assumption)
    | refine G_cal (gr_fX4_init _ _) (by assumption) (fun _ _ _ => ?_)
    | refine G_calx (gr_fX4_init _ _) (by assumption) (fun _ _ _ => ?_)
    | exact gr_fX4_init _ _
    | solve_by_elim (maxDepth := 3))
set_option maxHeartbeats 16000000 in
set_option maxRecDepth 100000 in
theorem gr_fX7_init (a0 : Nat) (C : Cd) : GO C (fX7_init a0 C) := by
  unfold fX7_init
  have hC0 : Gr C C := Gr.rf C
  repeat' (with_reducible first
    | exact G_none
    | exact G_some (by assumption)
    | exact G_some (Gr.sB (by assumption))
    | refine G_ite ?_ ?_
    | refine G_bndC (by first | assumption | exact Gr.sI (by assumption) _ _ _ | exact Gr.sR (by assumption) _ _ _ | exact Gr.sE (by assumption) _ _ _ | exact Gr.sP (by assumption) _ _ _ | exact Gr.sN (by assumption) _ | exact Gr.sA (by assumption) _ _ | exact Gr.sB (by assumption) | exact Gr.sS (by assumption) _ _ _ _) (fun _ _ => ?_)
    | refine G_drf (fun _ => ?_)
    | refine G_bndO (fun _ => ?_)
    | refine G_bndI (fun _ => ?_)
    | refine G_bndN (fun _ => ?_)
    | refine G_opt ?_ (fun _ => ?_)
    | exact G_retZ (by assumption)
    | exact G_retZX (by assumption)
    | solve_by_elim (maxDepth := 3))
set_option maxHeartbeats 16000000 in
set_option maxRecDepth 100000 in
theorem gr_fX2_init (a0 : Nat) (C : Cd) : GO C (fX2_init a0 C) := by
  unfold fX2_init
  have hC0 : Gr C C := Gr.rf C
  repeat' (with_reducible first
    | exact G_none
    | exact G_some (by assumption)
    | exact G_some (Gr.sB (by assumption))
    | refine G_ite ?_ ?_
    | refine G_bndC (by first | assumption | exact Gr.sI (by assumption) _ _ _ | exact Gr.sR (by assumption) _ _ _ | exact Gr.sE (by assumption) _ _ _ | exact Gr.sP (by assumption) _ _ _ | exact Gr.sN (by assumption) _ | exact Gr.sA (by assumption) _ _ | exact Gr.sB (by assumption) | exact Gr.sS (by assumption) _ _ _ _) (fun _ _ => ?_)
    | refine G_drf (fun _ => ?_)
    | refine G_bndO (fun _ => ?_)
    | refine G_bndI (fun _ => ?_)
    | refine G_bndN (fun _ => ?_)
    | refine G_opt ?_ (fun _ => ?_)
    | exact G_retZ (by assumption)
    | exact G_retZX (by assumption)
    | solve_by_elim (maxDepth := 3))
set_option maxHeartbeats 16000000 in
set_option maxRecDepth 100000 in
theorem gr_fX6_init (a0 : Nat) (C : Cd) : GO C (fX6_init a0 C) := by
  unfold fX6_init
  have hC0 : Gr C C := Gr.rf C
  repeat' (with_reducible first
    | exact G_none
    | exact G_some (by assumption)
    | exact G_some (Gr.sB (by assumption))
    | refine G_ite ?_ ?_
    | refine G_bndC (by first | assumption | exact Gr.sI (by assumption) _ _ _ | exact Gr.sR (by assumption) _ _ _ | exact Gr.sE (by assumption) _ _ _ | exact Gr.sP (by assumption) _ _ _ | exact Gr.sN (by assumption) _ | exact Gr.sA (by assumption) _ _ | exact Gr.sB (by assumption) | exact Gr.sS (by assumption) _ _ _ _) (fun _ _ => ?_)
    | refine G_drf (fun _ => ?_)
    | refine G_bndO (fun _ => ?_)
    | refine G_bndI (fun _ => ?_)
    | refine G_bndN (fun _ => ?_)
    | refine G_opt ?_ (fun _ => ?_)
    | exact G_retZ (by assumption)
    | exact G_retZX (by assumption)
    | solve_by_elim (maxDepth := 3))
set_option maxHeartbeats 16000000 in
set_option maxRecDepth 100000 in
theorem gr_fX1_init (a0 : Nat) (C : Cd) : GO C (fX1_init a0 C) := by
  unfold fX1_init
  have hC0 : Gr C C := Gr.rf C
  repeat' (with_reducible first
    | exact G_none
    | exact G_some (by assumption)
    | exact G_some (Gr.sB (by assumption))
    | refine G_ite ?_ ?_
    | refine G_bndC (by first | assumption | exact Gr.sI (by assumption) _ _ _ | exact Gr.sR (by assumption) _ _ _ | exact Gr.sE (by assumption) _ _ _ | exact Gr.sP (by assumption) _ _ _ | exact Gr.sN (by assumption) _ | exact Gr.sA (by assumption) _ _ | exact Gr.sB (by assumption) | exact Gr.sS (by assumption) _ _ _ _) (fun _ _ => ?_)
    | refine G_drf (fun _ => ?_)
    | refine G_bndO (fun _ => ?_)
    | refine G_bndI (fun _ => ?_)
    | refine G_bndN (fun _ => ?_)
    | refine G_opt ?_ (fun _ => ?_)
    | exact G_retZ (by assumption)
    | exact G_retZX (by assumption)
    | refine G_L_IC (fun _ _ _ => ?_) (fun _ _ _ _ _ => ?_) (fun _ _ => ?_)
    | refine G_J_IC (fun _ _ _ => ?_) (fun _ _ => ?_)
    | refine G_cal (gr_fX5_init _ _) (by assumption) (fun _ _ _ => ?_)
    | refine G_calx (gr_fX5_init _ _) (by assumption) (fun _ _ _ => ?_)
    | exact gr_fX5_init _ _
    | refine G_cal (gr_fX4_init _ _) (by assumption) (fun _ _ _ => ?_)
    | refine G_calx (gr_fX4_init _ _) (by assumption) (fun _ _ _ => ?_)
    | exact gr_fX4_init _ _
    | refine G_cal (gr_fX6_init _ _) (by assumption) (fun _ _ _ => ?_)
    | refine G_calx (gr_fX6_init _ _) (by assumption) (fun _ _ _ => ?_)
    | exact gr_fX6_init _ _
    | refine G_cal (gr_fX2_init _ _) (by assumption) (fun _ _ _ => ?_)
    | refine G_calx (gr_fX2_init _ _) (by assumption) (fun _ _ _ => ?_)
    | exact gr_fX2_init _ _
    | refine G_cal (gr_fX7_init _ _) (by assumption) (fun _ _ _ => ?_)
    | refine G_calx (gr_fX7_init _ _) (by assumption) (fun _ _ _ => ?_)
    | exact gr_fX7_init _ _
    | refine G_cal (gr_fX9_init _ _) (by assumption) (fun _ _ _ => ?_)
    | refine G_calx (gr_fX9_init _ _) (by assumption) (fun _ _ _ => ?_)
    | exact gr_fX9_init _ _
    | solve_by_elim (maxDepth := 3))
set_option maxHeartbeats 16000000 in
set_option maxRecDepth 100000 in
theorem gr_fX3_indexOf (a0 : Nat) (a1 : Int) (C : Cd) : GO C (fX3_indexOf a0 a1 C) := by
  unfold fX3_indexOf
  have hC0 : Gr C C := Gr.rf C
  repeat' (with_reducible first
    | exact G_none
    | exact G_some (by assumption)
    | exact G_some (Gr.sB (by assumption))
    | refine G_ite ?_ ?_
    | refine G_bndC (by first | assumption | exact Gr.sI (by assumption) _ _ _ | exact Gr.sR (by assumption) _ _ _ | exact Gr.sE (by assumption) _ _ _ | exact Gr.sP (by assumption) _ _ _ | exact Gr.sN (by assumption) _ | exact Gr.sA (by assumption) _ _ | exact Gr.sB (by assumption) | exact Gr.sS (by assumption) _ _ _ _) (fun _ _ => ?_)
    | refine G_drf (fun _ => ?_)
    | refine G_bndO (fun _ => ?_)
    | refine G_bndI (fun _ => ?_)
    | refine G_bndN (fun _ => ?_)
    | refine G_opt ?_ (fun _ => ?_)
    | exact G_retZ (by assumption)
    | exact G_retZX (by assumption)
    | refine G_L_IC (fun _ _ _ => ?_) (fun _ _ _ _ _ => ?_) (fun _ _ => ?_)
    | refine G_J_IC (fun _ _ _ => ?_) (fun _ _ => ?_)
    | refine G_cal (gr_fAL_size _ _) (by assumption) (fun _ _ _ => ?_)
    | refine G_calx (gr_fAL_size _ _) (by assumption) (fun _ _ _ => ?_)
    | exact gr_fAL_size _ _
    | refine G_cal (gr_fAL_get _ _ _) (by assumption) (fun _ _ _ => ?_)
    | refine G_calx (gr_fAL_get _ _ _) (by assumption) (fun _ _ _ => ?_)
    | exact gr_fAL_get _ _ _
    | solve_by_elim (maxDepth := 3))
set_option maxHeartbeats 16000000 in
set_option maxRecDepth 100000 in
theorem gr_fX3_init (a0 : Nat) (a1 : Option Nat) (C : Cd) : GO C (fX3_init a0 a1 C) := by
  unfold fX3_init
  have hC0 : Gr C C := Gr.rf C
  repeat' (with_reducible first
    | exact G_none
    | exact G_some (by assumption)
    | exact G_some (Gr.sB (by assumption))
    | refine G_ite ?_ ?_
    | refine G_bndC (by first | assumption | exact Gr.sI (by assumption) _ _ _ | exact Gr.sR (by assumption) _ _ _ | exact Gr.sE (by assumption) _ _ _ | exact Gr.sP (by assumption) _ _ _ | exact Gr.sN (by assumption) _ | exact Gr.sA (by assumption) _ _ | exact Gr.sB (by assumption) | exact Gr.sS (by assumption) _ _ _ _) (fun _ _ => ?_)
    | refine G_drf (fun _ => ?_)
    | refine G_bndO (fun _ => ?_)
    | refine G_bndI (fun _ => ?_)
    | refine G_bndN (fun _ => ?_)
    | refine G_opt ?_ (fun _ => ?_)
    | exact G_retZ (by assumption)
    | exact G_retZX (by assumption)
    | refine G_cal (gr_fAL_init _ _) (by assumption) (fun _ _ _ => ?_)
    | refine G_calx (gr_fAL_init _ _) (by assumption) (fun _ _ _ => ?_)
    | exact gr_fAL_init _ _
    | refine G_cal (gr_fAL_add _ _ _) (by assumption) (fun _ _ _ => ?_)
    | refine G_calx (gr_fAL_add _ _ _) (by assumption) (fun _ _ _ => ?_)
    | exact gr_fAL_add _ _ _
    | solve_by_elim (maxDepth := 3))
set_option maxHeartbeats 16000000 in
set_option maxRecDepth 100000 in
theorem gr_fX3_put (a0 : Nat) (a1 : Option Nat) (C : Cd) : GO C (fX3_put a0 a1 C) := by
  unfold fX3_put
  have hC0 : Gr C C := Gr.rf C
  repeat' (with_reducible first
    | exact G_none
    | exact G_some (by assumption)
    | exact G_some (Gr.sB (by assumption))
    | refine G_ite ?_ ?_
    | refine G_bndC (by first | assumption | exact Gr.sI (by assumption) _ _ _ | exact Gr.sR (by assumption) _ _ _ | exact Gr.sE (by assumption) _ _ _ | exact Gr.sP (by assumption) _ _ _ | exact Gr.sN (by assumption) _ | exact Gr.sA (by assumption) _ _ | exact Gr.sB (by assumption) | exact Gr.sS (by assumption) _ _ _ _) (fun _ _ => ?_)
    | refine G_drf (fun _ => ?_)
    | refine G_bndO (fun _ => ?_)
    | refine G_bndI (fun _ => ?_)
    | refine G_bndN (fun _ => ?_)
    | refine G_opt ?_ (fun _ => ?_)
    | exact G_retZ (by assumption)
    | exact G_retZX (by assumption)
    | refine G_L_C (fun _ _ => ?_) (fun _ _ _ _ => ?_) (fun _ _ => ?_)
    | refine G_J_C (fun _ _ => ?_) (fun _ _ => ?_)
    | refine G_L_IC (fun _ _ _ => ?_) (fun _ _ _ _ _ => ?_) (fun _ _ => ?_)
    | refine G_J_IC (fun _ _ _ => ?_) (fun _ _ => ?_)
    | refine G_cal (gr_fAL_size _ _) (by assumption) (fun _ _ _ => ?_)
    | refine G_calx (gr_fAL_size _ _) (by assumption) (fun _ _ _ => ?_)
    | exact gr_fAL_size _ _
    | refine G_cal (gr_fAL_addAt _ _ _ _) (by assumption) (fun _ _ _ => ?_)
    | refine G_calx (gr_fAL_addAt _ _ _ _) (by assumption) (fun _ _ _ => ?_)
    | exact gr_fAL_addAt _ _ _ _
    | refine G_cal (gr_fAL_get _ _ _) (by assumption) (fun _ _ _ => ?_)
    | refine G_calx (gr_fAL_get _ _ _) (by assumption) (fun _ _ _ => ?_)
    | exact gr_fAL_get _ _ _
    | solve_by_elim (maxDepth := 3))
set_option maxHeartbeats 16000000 in
set_option maxRecDepth 100000 in
theorem gr_fX3_versionAtIndex (a0 : Nat) (a1 : Int) (C : Cd) : GO C (fX3_versionAtIndex a0 a1 C) := by
  unfold fX3_versionAtIndex
  have hC0 : Gr C C := Gr.rf C
  repeat' (with_reducible first
    | exact G_none
    | exact G_some (by assumption)
    | exact G_some (Gr.sB (by assumption))
    | refine G_ite ?_ ?_
    | refine G_bndC (by first | assumption | exact Gr.sI (by assumption) _ _ _ | exact Gr.sR (by assumption) _ _ _ | exact Gr.sE (by assumption) _ _ _ | exact Gr.sP (by assumption) _ _ _ | exact Gr.sN (by assumption) _ | exact Gr.sA (by assumption) _ _ | exact Gr.sB (by assumption) | exact Gr.sS (by assumption) _ _ _ _) (fun _ _ => ?_)
    | refine G_drf (fun _ => ?_)
    | refine G_bndO (fun _ => ?_)
    | refine G_bndI (fun _ => ?_)
    | refine G_bndN (fun _ => ?_)
    | refine G_opt ?_ (fun _ => ?_)
    | exact G_retZ (by assumption)
    | exact G_retZX (by assumption)
    | refine G_L_C (fun _ _ => ?_) (fun _ _ _ _ => ?_) (fun _ _ => ?_)
    | refine G_J_C (fun _ _ => ?_) (fun _ _ => ?_)
    | refine G_L_OC (fun _ _ _ => ?_) (fun _ _ _ _ _ => ?_) (fun _ _ => ?_)
    | refine G_J_OC (fun _ _ _ => ?_) (fun _ _ => ?_)
    | refine G_cal (gr_fAL_size _ _) (by assumption) (fun _ _ _ => ?_)
    | refine G_calx (gr_fAL_size _ _) (by assumption) (fun _ _ _ => ?_)
    | exact gr_fAL_size _ _
    | refine G_cal (gr_fAL_get _ _ _) (by assumption) (fun _ _ _ => ?_)
    | refine G_calx (gr_fAL_get _ _ _) (by assumption) (fun _ _ _ => ?_)
    | exact gr_fAL_get _ _ _
    | solve_by_elim (maxDepth := 3))
set_option maxHeartbeats 16000000 in
set_option maxRecDepth 100000 in
theorem gr_fX4_take (a0 : Nat) (a1 : Option Nat) (C : Cd) : GO C (fX4_take a0 a1 C) := by
  unfold fX4_take
  have hC0 : Gr C C := Gr.rf C
  repeat' (with_reducible first
    | exact G_none
    | exact G_some (by assumption)
    | exact G_some (Gr.sB (by assumption))
    | refine G_ite ?_ ?_
    | refine G_bndC (by first | assumption | exact Gr.sI (by assumption) _ _ _ | exact Gr.sR (by assumption) _ _ _ | exact Gr.sE (by assumption) _ _ _ | exact Gr.sP (by assumption) _ _ _ | exact Gr.sN (by assumption) _ | exact Gr.sA (by assumption) _ _ | exact Gr.sB (by assumption) | exact Gr.sS (by assumption) _ _ _ _) (fun _ _ => ?_)
    | refine G_drf (fun _ => ?_)
    | refine G_bndO (fun _ => ?_)
    | refine G_bndI (fun _ => ?_)
    | refine G_bndN (fun _ => ?_)
    | refine G_opt ?_ (fun _ => ?_)
    | exact G_retZ (by assumption)
    | exact G_retZX (by assumption)
    | refine G_cal (gr_fX5_clear _ _) (by assumption) (fun _ _ _ => ?_)
    | refine G_calx (gr_fX5_clear _ _) (by assumption) (fun _ _ _ => ?_)
    | exact gr_fX5_clear _ _
    | refine G_cal (gr_fX5_addAll _ _ _) (by assumption) (fun _ _ _ => ?_)
    | refine G_calx (gr_fX5_addAll _ _ _) (by assumption) (fun _ _ _ => ?_)
    | exact gr_fX5_addAll _ _ _
    | solve_by_elim (maxDepth := 3))
set_option maxHeartbeats 16000000 in
set_option maxRecDepth 100000 in
theorem gr_fX7_add (a0 : Nat) (a1 : Int) (a2 : Int) (C : Cd) : GO C (fX7_add a0 a1 a2 C) := by
  unfold fX7_add
  have hC0 : Gr C C := Gr.rf C
  repeat' (with_reducible first
    | exact G_none
    | exact G_some (by assumption)
    | exact G_some (Gr.sB (by assumption))
    | refine G_ite ?_ ?_
    | refine G_bndC (by first | assumption | exact Gr.sI (by assumption) _ _ _ | exact Gr.sR (by assumption) _ _ _ | exact Gr.sE (by assumption) _ _ _ | exact Gr.sP (by assumption) _ _ _ | exact Gr.sN (by assumption) _ | exact Gr.sA (by assumption) _ _ | exact Gr.sB (by assumption) | exact Gr.sS (by assumption) _ _ _ _) (fun _ _ => ?_)
    | refine G_drf (fun _ => ?_)
    | refine G_bndO (fun _ => ?_)
    | refine G_bndI (fun _ => ?_)
    | refine G_bndN (fun _ => ?_)
    | refine G_opt ?_ (fun _ => ?_)
    | exact G_retZ (by assumption)
    | exact G_retZX (by assumption)
    | refine G_L_C (fun _ _ => ?_) (fun _ _ _ _ => ?_) (fun _ _ => ?_)
    | refine G_J_C (fun _ _ => ?_) (fun _ _ => ?_)
    | solve_by_elim (maxDepth := 3))
set_option maxHeartbeats 16000000 in
set_option maxRecDepth 100000 in
theorem gr_fX8_add (a0 : Nat) (a1 : Int) (C : Cd) : GO C (fX8_add a0 a1 C) := by
  unfold fX8_add
  have hC0 : Gr C C := Gr.rf C
  repeat' (with_reducible first
    | exact G_none
    | exact G_some (by assumption)
    | exact G_some (Gr.sB (by assumption))
    | refine G_ite ?_ ?_
    | refine G_bndC (by first | assumption | exact Gr.sI (by assumption) _ _ _ | exact Gr.sR (by assumption) _ _ _ | exact Gr.sE (by assumption) _ _ _ | exact Gr.sP (by assumption) _ _ _ | exact Gr.sN (by assumption) _ | exact Gr.sA (by assumption) _ _ | exact Gr.sB (by assumption) | exact Gr.sS (by assumption) _ _ _ _) (fun _ _ => ?_)
    | refine G_drf (fun _ => ?_)
    | refine G_bndO (fun _ => ?_)
    | refine G_bndI (fun _ => ?_)
    | refine G_bndN (fun _ => ?_)
    | refine G_opt ?_ (fun _ => ?_)
    | exact G_retZ (by assumption)
    | exact G_retZX (by assumption)
    | refine G_L_C (fun _ _ => ?_) (fun _ _ _ _ => ?_) (fun _ _ => ?_)
    | refine G_J_C (fun _ _ => ?_) (fun _ _ => ?_)
    | solve_by_elim (maxDepth := 3))
set_option maxHeartbeats 16000000 in
set_option maxRecDepth 100000 in
theorem gr_fX8_sectionStart (a0 : Nat) (a1 : Int) (C : Cd) : GO C (fX8_sectionStart a0 a1 C) := by
  unfold fX8_sectionStart
  have hC0 : Gr C C := Gr.rf C
  repeat' (with_reducible first
    | exact G_none
    | exact G_some (by assumption)
    | exact G_some (Gr.sB (by assumption))
    | refine G_ite ?_ ?_
    | refine G_bndC (by first | assumption | exact Gr.sI (by assumption) _ _ _ | exact Gr.sR (by assumption) _ _ _ | exact Gr.sE (by assumption) _ _ _ | exact Gr.sP (by assumption) _ _ _ | exact Gr.sN (by assumption) _ | exact Gr.sA (by assumption) _ _ | exact Gr.sB (by assumption) | exact Gr.sS (by assumption) _ _ _ _) (fun _ _ => ?_)
    | refine G_drf (fun _ => ?_)
    | refine G_bndO (fun _ => ?_)
    | refine G_bndI (fun _ => ?_)
    | refine G_bndN (fun _ => ?_)
    | refine G_opt ?_ (fun _ => ?_)
    | exact G_retZ (by assumption)
    | exact G_retZX (by assumption)
    | refine G_L_IC (fun _ _ _ => ?_) (fun _ _ _ _ _ => ?_) (fun _ _ => ?_)
    | refine G_J_IC (fun _ _ _ => ?_) (fun _ _ => ?_)
    | refine G_L_IIC (fun _ _ _ _ => ?_) (fun _ _ _ _ _ _ => ?_) (fun _ _ => ?_)
    | refine G_J_IIC (fun _ _ _ _ => ?_) (fun _ _ => ?_)
    | refine G_cal (gr_fX8_kindAt _ _ _) (by assumption) (fun _ _ _ => ?_)
    | refine G_calx (gr_fX8_kindAt _ _ _) (by assumption) (fun _ _ _ => ?_)
    | exact gr_fX8_kindAt _ _ _
    | solve_by_elim (maxDepth := 3))
set_option maxHeartbeats 16000000 in
set_option maxRecDepth 100000 in
theorem gr_fX8_codeAt (a0 : Nat) (a1 : Int) (C : Cd) : GO C (fX8_codeAt a0 a1 C) := by
  unfold fX8_codeAt
  have hC0 : Gr C C := Gr.rf C
  repeat' (with_reducible first
    | exact G_none
    | exact G_some (by assumption)
    | exact G_some (Gr.sB (by assumption))
    | refine G_ite ?_ ?_
    | refine G_bndC (by first | assumption | exact Gr.sI (by assumption) _ _ _ | exact Gr.sR (by assumption) _ _ _ | exact Gr.sE (by assumption) _ _ _ | exact Gr.sP (by assumption) _ _ _ | exact Gr.sN (by assumption) _ | exact Gr.sA (by assumption) _ _ | exact Gr.sB (by assumption) | exact Gr.sS (by assumption) _ _ _ _) (fun _ _ => ?_)
    | refine G_drf (fun _ => ?_)
    | refine G_bndO (fun _ => ?_)
    | refine G_bndI (fun _ => ?_)
    | refine G_bndN (fun _ => ?_)
    | refine G_opt ?_ (fun _ => ?_)
    | exact G_retZ (by assumption)
    | exact G_retZX (by assumption)
    | refine G_L_C (fun _ _ => ?_) (fun _ _ _ _ => ?_) (fun _ _ => ?_)
    | refine G_J_C (fun _ _ => ?_) (fun _ _ => ?_)
    | refine G_L_IC (fun _ _ _ => ?_) (fun _ _ _ _ _ => ?_) (fun _ _ => ?_)
    | refine G_J_IC (fun _ _ _ => ?_) (fun _ _ => ?_)
    | solve_by_elim (maxDepth := 3))
set_option maxHeartbeats 16000000 in
set_option maxRecDepth 100000 in
theorem gr_fX8_addStretch (a0 : Nat) (a1 : Option Nat) (a2 : Int) (a3 : Int) (C : Cd) : GO C (fX8_addStretch a0 a1 a2 a3 C) := by
  unfold fX8_addStretch
  have hC0 : Gr C C := Gr.rf C
  repeat' (with_reducible first
    | exact G_none
    | exact G_some (by assumption)
    | exact G_some (Gr.sB (by assumption))
    | refine G_ite ?_ ?_
    | refine G_bndC (by first | assumption | exact Gr.sI (by assumption) _ _ _ | exact Gr.sR (by assumption) _ _ _ | exact Gr.sE (by assumption) _ _ _ | exact Gr.sP (by assumption) _ _ _ | exact Gr.sN (by assumption) _ | exact Gr.sA (by assumption) _ _ | exact Gr.sB (by assumption) | exact Gr.sS (by assumption) _ _ _ _) (fun _ _ => ?_)
    | refine G_drf (fun _ => ?_)
    | refine G_bndO (fun _ => ?_)
    | refine G_bndI (fun _ => ?_)
    | refine G_bndN (fun _ => ?_)
    | refine G_opt ?_ (fun _ => ?_)
    | exact G_retZ (by assumption)
    | exact G_retZX (by assumption)
    | refine G_L_IC (fun _ _ _ => ?_) (fun _ _ _ _ _ => ?_) (fun _ _ => ?_)
    | refine G_J_IC (fun _ _ _ => ?_) (fun _ _ => ?_)
    | refine G_cal (gr_fX8_codeAt _ _ _) (by assumption) (fun _ _ _ => ?_)
    | refine G_calx (gr_fX8_codeAt _ _ _) (by assumption) (fun _ _ _ => ?_)
    | exact gr_fX8_codeAt _ _ _
    | refine G_cal (gr_fX8_add _ _ _) (by assumption) (fun _ _ _ => ?_)
    | refine G_calx (gr_fX8_add _ _ _) (by assumption) (fun _ _ _ => ?_)
    | exact gr_fX8_add _ _ _
    | solve_by_elim (maxDepth := 3))
set_option maxHeartbeats 16000000 in
set_option maxRecDepth 100000 in
theorem gr_fX8_addSection (a0 : Nat) (a1 : Option Nat) (a2 : Int) (C : Cd) : GO C (fX8_addSection a0 a1 a2 C) := by
  unfold fX8_addSection
  have hC0 : Gr C C := Gr.rf C
  repeat' (with_reducible first
    | exact G_none
    | exact G_some (by assumption)
    | exact G_some (Gr.sB (by assumption))
    | refine G_ite ?_ ?_
    | refine G_bndC (by first | assumption | exact Gr.sI (by assumption) _ _ _ | exact Gr.sR (by assumption) _ _ _ | exact Gr.sE (by assumption) _ _ _ | exact Gr.sP (by assumption) _ _ _ | exact Gr.sN (by assumption) _ | exact Gr.sA (by assumption) _ _ | exact Gr.sB (by assumption) | exact Gr.sS (by assumption) _ _ _ _) (fun _ _ => ?_)
    | refine G_drf (fun _ => ?_)
    | refine G_bndO (fun _ => ?_)
    | refine G_bndI (fun _ => ?_)
    | refine G_bndN (fun _ => ?_)
    | refine G_opt ?_ (fun _ => ?_)
    | exact G_retZ (by assumption)
    | exact G_retZX (by assumption)
    | refine G_cal (gr_fX8_sectionStart _ _ _) (by assumption) (fun _ _ _ => ?_)
    | refine G_calx (gr_fX8_sectionStart _ _ _) (by assumption) (fun _ _ _ => ?_)
    | exact gr_fX8_sectionStart _ _ _
    | refine G_cal (gr_fX8_addStretch _ _ _ _ _) (by assumption) (fun _ _ _ => ?_)
    | refine G_calx (gr_fX8_addStretch _ _ _ _ _) (by assumption) (fun _ _ _ => ?_)
    | exact gr_fX8_addStretch _ _ _ _ _
    | solve_by_elim (maxDepth := 3))
set_option maxHeartbeats 16000000 in
set_option maxRecDepth 100000 in
theorem gr_fX8_clear (a0 : Nat) (C : Cd) : GO C (fX8_clear a0 C) := by
  unfold fX8_clear
  have hC0 : Gr C C := Gr.rf C
  repeat' (with_reducible first
    | exact G_none
    | exact G_some (by assumption)
    | exact G_some (Gr.sB (by assumption))
    | refine G_ite ?_ ?_
    | refine G_bndC (by first | assumption | exact Gr.sI (by assumption) _ _ _ | exact Gr.sR (by assumption) _ _ _ | exact Gr.sE (by assumption) _ _ _ | exact Gr.sP (by assumption) _ _ _ | exact Gr.sN (by assumption) _ | exact Gr.sA (by assumption) _ _ | exact Gr.sB (by assumption) | exact Gr.sS (by assumption) _ _ _ _) (fun _ _ => ?_)
    | refine G_drf (fun _ => ?_)
    | refine G_bndO (fun _ => ?_)
    | refine G_bndI (fun _ => ?_)
    | refine G_bndN (fun _ => ?_)
    | refine G_opt ?_ (fun _ => ?_)
    | exact G_retZ (by assumption)
    | exact G_retZX (by assumption)
    | solve_by_elim (maxDepth := 3))
set_option maxHeartbeats 16000000 in
set_option maxRecDepth 100000 in
theorem gr_fX8_opens (a0 : Int) (C : Cd) : GO C (fX8_opens a0 C) := by
  unfold fX8_opens
  have hC0 : Gr C C := Gr.rf C
  repeat' (with_reducible first
    | exact G_none
    | exact G_some (by assumption)
    | exact G_some (Gr.sB (by assumption))
    | refine G_ite ?_ ?_
    | refine G_bndC (by first | assumption | exact Gr.sI (by assumption) _ _ _ | exact Gr.sR (by assumption) _ _ _ | exact Gr.sE (by assumption) _ _ _ | exact Gr.sP (by assumption) _ _ _ | exact Gr.sN (by assumption) _ | exact Gr.sA (by assumption) _ _ | exact Gr.sB (by assumption) | exact Gr.sS (by assumption) _ _ _ _) (fun _ _ => ?_)
    | refine G_drf (fun _ => ?_)
    | refine G_bndO (fun _ => ?_)
    | refine G_bndI (fun _ => ?_)
    | refine G_bndN (fun _ => ?_)
    | refine G_opt ?_ (fun _ => ?_)
    | exact G_retZ (by assumption)
    | exact G_retZX (by assumption)
    | refine G_L_C (fun _ _ => ?_) (fun _ _ _ _ => ?_) (fun _ _ => ?_)
    | refine G_J_C (fun _ _ => ?_) (fun _ _ => ?_)
    | refine G_L_IC (fun _ _ _ => ?_) (fun _ _ _ _ _ => ?_) (fun _ _ => ?_)
    | refine G_J_IC (fun _ _ _ => ?_) (fun _ _ => ?_)
    | solve_by_elim (maxDepth := 3))
set_option maxHeartbeats 16000000 in
set_option maxRecDepth 100000 in
theorem gr_fX8_findEnd (a0 : Nat) (a1 : Int) (C : Cd) : GO C (fX8_findEnd a0 a1 C) := by
  unfold fX8_findEnd
  have hC0 : Gr C C := Gr.rf C
  repeat' (with_reducible first
    | exact G_none
    | exact G_some (by assumption)
    | exact G_some (Gr.sB (by assumption))
    | refine G_ite ?_ ?_
    | refine G_bndC (by first | assumption | exact Gr.sI (by assumption) _ _ _ | exact Gr.sR (by assumption) _ _ _ | exact Gr.sE (by assumption) _ _ _ | exact Gr.sP (by assumption) _ _ _ | exact Gr.sN (by assumption) _ | exact Gr.sA (by assumption) _ _ | exact Gr.sB (by assumption) | exact Gr.sS (by assumption) _ _ _ _) (fun _ _ => ?_)
    | refine G_drf (fun _ => ?_)
    | refine G_bndO (fun _ => ?_)
    | refine G_bndI (fun _ => ?_)
    | refine G_bndN (fun _ => ?_)
    | refine G_opt ?_ (fun _ => ?_)
    | exact G_retZ (by assumption)
    | exact G_retZX (by assumption)
    | refine G_L_C (fun _ _ => ?_) (fun _ _ _ _ => ?_) (fun _ _ => ?_)
    | refine G_J_C (fun _ _ => ?_) (fun _ _ => ?_)
    | refine G_L_IC (fun _ _ _ => ?_) (fun _ _ _ _ _ => ?_) (fun _ _ => ?_)
    | refine G_J_IC (fun _ _ _ => ?_) (fun _ _ => ?_)
    | refine G_L_IIC (fun _ _ _ _ => ?_) (fun _ _ _ _ _ _ => ?_) (fun _ _ => ?_)
    | refine G_J_IIC (fun _ _ _ _ => ?_) (fun _ _ => ?_)
    | refine G_cal (gr_fX8_startsPart _ _ _) (by assumption) (fun _ _ _ => ?_)
    | refine G_calx (gr_fX8_startsPart _ _ _) (by assumption) (fun _ _ _ => ?_)
    | exact gr_fX8_startsPart _ _ _
    | refine G_cal (gr_fX8_kindAt _ _ _) (by assumption) (fun _ _ _ => ?_)
    | refine G_calx (gr_fX8_kindAt _ _ _) (by assumption) (fun _ _ _ => ?_)
    | exact gr_fX8_kindAt _ _ _
    | refine G_cal (gr_fX8_opens _ _) (by assumption) (fun _ _ _ => ?_)
    | refine G_calx (gr_fX8_opens _ _) (by assumption) (fun _ _ _ => ?_)
    | exact gr_fX8_opens _ _
    | solve_by_elim (maxDepth := 3))
set_option maxHeartbeats 16000000 in
set_option maxRecDepth 100000 in
theorem gr_fX8_fits (a0 : Nat) (a1 : Int) (a2 : Int) (a3 : Int) (C : Cd) : GO C (fX8_fits a0 a1 a2 a3 C) := by
  unfold fX8_fits
  have hC0 : Gr C C := Gr.rf C
  repeat' (with_reducible first
    | exact G_none
    | exact G_some (by assumption)
    | exact G_some (Gr.sB (by assumption))
    | refine G_ite ?_ ?_
    | refine G_bndC (by first | assumption | exact Gr.sI (by assumption) _ _ _ | exact Gr.sR (by assumption) _ _ _ | exact Gr.sE (by assumption) _ _ _ | exact Gr.sP (by assumption) _ _ _ | exact Gr.sN (by assumption) _ | exact Gr.sA (by assumption) _ _ | exact Gr.sB (by assumption) | exact Gr.sS (by assumption) _ _ _ _) (fun _ _ => ?_)
    | refine G_drf (fun _ => ?_)
    | refine G_bndO (fun _ => ?_)
    | refine G_bndI (fun _ => ?_)
    | refine G_bndN (fun _ => ?_)
    | refine G_opt ?_ (fun _ => ?_)
    | exact G_retZ (by assumption)
    | exact G_retZX (by assumption)
    | refine G_L_C (fun _ _ => ?_) (fun _ _ _ _ => ?_) (fun _ _ => ?_)
    | refine G_J_C (fun _ _ => ?_) (fun _ _ => ?_)
    | refine G_L_IC (fun _ _ _ => ?_) (fun _ _ _ _ _ => ?_) (fun _ _ => ?_)
    | refine G_J_IC (fun _ _ _ => ?_) (fun _ _ => ?_)
    | solve_by_elim (maxDepth := 3))
set_option maxHeartbeats 16000000 in
set_option maxRecDepth 100000 in
theorem gr_fX8_init (a0 : Nat) (a1 : Int) (C : Cd) : GO C (fX8_init a0 a1 C) := by
  unfold fX8_init
  have hC0 : Gr C C := Gr.rf C
  repeat' (with_reducible first
    | exact G_none
    | exact G_some (by assumption)
    | exact G_some (Gr.sB (by assumption))
    | refine G_ite ?_ ?_
    | refine G_bndC (by first | assumption | exact Gr.sI (by assumption) _ _ _ | exact Gr.sR (by assumption) _ _ _ | exact Gr.sE (by assumption) _ _ _ | exact Gr.sP (by assumption) _ _ _ | exact Gr.sN (by assumption) _ | exact Gr.sA (by assumption) _ _ | exact Gr.sB (by assumption) | exact Gr.sS (by assumption) _ _ _ _) (fun _ _ => ?_)
    | refine G_drf (fun _ => ?_)
    | refine G_bndO (fun _ => ?_)
    | refine G_bndI (fun _ => ?_)
    | refine G_bndN (fun _ => ?_)
    | refine G_opt ?_ (fun _ => ?_)
    | exact G_retZ (by assumption)
    | exact G_retZX (by assumption)
    | refine G_L_IC (fun _ _ _ => ?_) (fun _ _ _ _ _ => ?_) (fun _ _ => ?_)
    | refine G_J_IC (fun _ _ _ => ?_) (fun _ _ => ?_)
    | solve_by_elim (maxDepth := 3))
set_option maxHeartbeats 16000000 in
set_option maxRecDepth 100000 in
theorem gr_fX8_isText (a0 : Nat) (C : Cd) : GO C (fX8_isText a0 C) := by
  unfold fX8_isText
  have hC0 : Gr C C := Gr.rf C
  repeat' (with_reducible first
    | exact G_none
    | exact G_some (by assumption)
    | exact G_some (Gr.sB (by assumption))
    | refine G_ite ?_ ?_
    | refine G_bndC (by first | assumption | exact Gr.sI (by assumption) _ _ _ | exact Gr.sR (by assumption) _ _ _ | exact Gr.sE (by assumption) _ _ _ | exact Gr.sP (by assumption) _ _ _ | exact Gr.sN (by assumption) _ | exact Gr.sA (by assumption) _ _ | exact Gr.sB (by assumption) | exact Gr.sS (by assumption) _ _ _ _) (fun _ _ => ?_)
    | refine G_drf (fun _ => ?_)
    | refine G_bndO (fun _ => ?_)
    | refine G_bndI (fun _ => ?_)
    | refine G_bndN (fun _ => ?_)
    | refine G_opt ?_ (fun _ => ?_)
    | exact G_retZ (by assumption)
    | exact G_retZX (by assumption)
    | refine G_L_C (fun _ _ => ?_) (fun _ _ _ _ => ?_) (fun _ _ => ?_)
    | refine G_J_C (fun _ _ => ?_) (fun _ _ => ?_)
    | refine G_L_IC (fun _ _ _ => ?_) (fun _ _ _ _ _ => ?_) (fun _ _ => ?_)
    | refine G_J_IC (fun _ _ _ => ?_) (fun _ _ => ?_)
    | refine G_L_IIC (fun _ _ _ _ => ?_) (fun _ _ _ _ _ _ => ?_) (fun _ _ => ?_)
    | refine G_J_IIC (fun _ _ _ _ => ?_) (fun _ _ => ?_)
    | refine G_cal (gr_fX8_kindAt _ _ _) (by assumption) (fun _ _ _ => ?_)
    | refine G_calx (gr_fX8_kindAt _ _ _) (by assumption) (fun _ _ _ => ?_)
    | exact gr_fX8_kindAt _ _ _
    | refine G_cal (gr_fX8_fits _ _ _ _ _) (by assumption) (fun _ _ _ => ?_)
    | refine G_calx (gr_fX8_fits _ _ _ _ _) (by assumption) (fun _ _ _ => ?_)
    | exact gr_fX8_fits _ _ _ _ _
    | refine G_cal (gr_fX8_opens _ _) (by assumption) (fun _ _ _ => ?_)
    | refine G_calx (gr_fX8_opens _ _) (by assumption) (fun _ _ _ => ?_)
    | exact gr_fX8_opens _ _
    | solve_by_elim (maxDepth := 3))
set_option maxHeartbeats 16000000 in
set_option maxRecDepth 100000 in
theorem gr_fX8_leadsInto (a0 : Nat) (a1 : Int) (a2 : Int) (C : Cd) : GO C (fX8_leadsInto a0 a1 a2 C) := by
  unfold fX8_leadsInto
  have hC0 : Gr C C := Gr.rf C
  repeat' (with_reducible first
    | exact G_none
    | exact G_some (by assumption)
    | exact G_some (Gr.sB (by assumption))
    | refine G_ite ?_ ?_
    | refine G_bndC (by first | assumption | exact Gr.sI (by assumption) _ _ _ | exact Gr.sR (by assumption) _ _ _ | exact Gr.sE (by assumption) _ _ _ | exact Gr.sP (by assumption) _ _ _ | exact Gr.sN (by assumption) _ | exact Gr.sA (by assumption) _ _ | exact Gr.sB (by assumption) | exact Gr.sS (by assumption) _ _ _ _) (fun _ _ => ?_)
    | refine G_drf (fun _ => ?_)
    | refine G_bndO (fun _ => ?_)
    | refine G_bndI (fun _ => ?_)
    | refine G_bndN (fun _ => ?_)
    | refine G_opt ?_ (fun _ => ?_)
    | exact G_retZ (by assumption)
    | exact G_retZX (by assumption)
    | refine G_L_C (fun _ _ => ?_) (fun _ _ _ _ => ?_) (fun _ _ => ?_)
    | refine G_J_C (fun _ _ => ?_) (fun _ _ => ?_)
    | refine G_L_IC (fun _ _ _ => ?_) (fun _ _ _ _ _ => ?_) (fun _ _ => ?_)
    | refine G_J_IC (fun _ _ _ => ?_) (fun _ _ => ?_)
    | refine G_cal (gr_fX8_kindAt _ _ _) (by assumption) (fun _ _ _ => ?_)
    | refine G_calx (gr_fX8_kindAt _ _ _) (by assumption) (fun _ _ _ => ?_)
    | exact gr_fX8_kindAt _ _ _
    | refine G_cal (gr_fX8_valueAt _ _ _) (by assumption) (fun _ _ _ => ?_)
    | refine G_calx (gr_fX8_valueAt _ _ _) (by assumption) (fun _ _ _ => ?_)
    | exact gr_fX8_valueAt _ _ _
    | refine G_cal (gr_fX11_has _ _ _) (by assumption) (fun _ _ _ => ?_)
    | refine G_calx (gr_fX11_has _ _ _) (by assumption) (fun _ _ _ => ?_)
    | exact gr_fX11_has _ _ _
    | solve_by_elim (maxDepth := 3))
set_option maxHeartbeats 16000000 in
set_option maxRecDepth 100000 in
theorem gr_fX8_leadsInto_ (a0 : Nat) (a1 : Int) (C : Cd) : GO C (fX8_leadsInto_ a0 a1 C) := by
  unfold fX8_leadsInto_
  have hC0 : Gr C C := Gr.rf C
  repeat' (with_reducible first
    | exact G_none
    | exact G_some (by assumption)
    | exact G_some (Gr.sB (by assumption))
    | refine G_ite ?_ ?_
    | refine G_bndC (by first | assumption | exact Gr.sI (by assumption) _ _ _ | exact Gr.sR (by assumption) _ _ _ | exact Gr.sE (by assumption) _ _ _ | exact Gr.sP (by assumption) _ _ _ | exact Gr.sN (by assumption) _ | exact Gr.sA (by assumption) _ _ | exact Gr.sB (by assumption) | exact Gr.sS (by assumption) _ _ _ _) (fun _ _ => ?_)
    | refine G_drf (fun _ => ?_)
    | refine G_bndO (fun _ => ?_)
    | refine G_bndI (fun _ => ?_)
    | refine G_bndN (fun _ => ?_)
    | refine G_opt ?_ (fun _ => ?_)
    | exact G_retZ (by assumption)
    | exact G_retZX (by assumption)
    | refine G_L_IC (fun _ _ _ => ?_) (fun _ _ _ _ _ => ?_) (fun _ _ => ?_)
    | refine G_J_IC (fun _ _ _ => ?_) (fun _ _ => ?_)
    | refine G_cal (gr_fX8_leadsInto _ _ _ _) (by assumption) (fun _ _ _ => ?_)
    | refine G_calx (gr_fX8_leadsInto _ _ _ _) (by assumption) (fun _ _ _ => ?_)
    | exact gr_fX8_leadsInto _ _ _ _
    | solve_by_elim (maxDepth := 3))
set_option maxHeartbeats 16000000 in
set_option maxRecDepth 100000 in
theorem gr_fX8_sameAs (a0 : Nat) (a1 : Option Nat) (C : Cd) : GO C (fX8_sameAs a0 a1 C) := by
  unfold fX8_sameAs
  have hC0 : Gr C C := Gr.rf C
  repeat' (with_reducible first
    | exact G_none
    | exact G_some (by assumption)
    | exact G_some (Gr.sB (by assumption))
    | refine G_ite ?_ ?_
    | refine G_bndC (by first | assumption | exact Gr.sI (by assumption) _ _ _ | exact Gr.sR (by assumption) _ _ _ | exact Gr.sE (by assumption) _ _ _ | exact Gr.sP (by assumption) _ _ _ | exact Gr.sN (by assumption) _ | exact Gr.sA (by assumption) _ _ | exact Gr.sB (by assumption) | exact Gr.sS (by assumption) _ _ _ _) (fun _ _ => ?_)
    | refine G_drf (fun _ => ?_)
    | refine G_bndO (fun _ => ?_)
    | refine G_bndI (fun _ => ?_)
    | refine G_bndN (fun _ => ?_)
    | refine G_opt ?_ (fun _ => ?_)
    | exact G_retZ (by assumption)
    | exact G_retZX (by assumption)
    | refine G_L_IC (fun _ _ _ => ?_) (fun _ _ _ _ _ => ?_) (fun _ _ => ?_)
    | refine G_J_IC (fun _ _ _ => ?_) (fun _ _ => ?_)
    | refine G_cal (gr_fX8_codeAt _ _ _) (by assumption) (fun _ _ _ => ?_)
    | refine G_calx (gr_fX8_codeAt _ _ _) (by assumption) (fun _ _ _ => ?_)
    | exact gr_fX8_codeAt _ _ _
    | solve_by_elim (maxDepth := 3))
set_option maxHeartbeats 16000000 in
set_option maxRecDepth 100000 in
theorem gr_fX8_sameSection (a0 : Nat) (a1 : Option Nat) (a2 : Int) (C : Cd) : GO C (fX8_sameSection a0 a1 a2 C) := by
  unfold fX8_sameSection
  have hC0 : Gr C C := Gr.rf C
  repeat' (with_reducible first
    | exact G_none
    | exact G_some (by assumption)
    | exact G_some (Gr.sB (by assumption))
    | refine G_ite ?_ ?_
    | refine G_bndC (by first | assumption | exact Gr.sI (by assumption) _ _ _ | exact Gr.sR (by assumption) _ _ _ | exact Gr.sE (by assumption) _ _ _ | exact Gr.sP (by assumption) _ _ _ | exact Gr.sN (by assumption) _ | exact Gr.sA (by assumption) _ _ | exact Gr.sB (by assumption) | exact Gr.sS (by assumption) _ _ _ _) (fun _ _ => ?_)
    | refine G_drf (fun _ => ?_)
    | refine G_bndO (fun _ => ?_)
    | refine G_bndI (fun _ => ?_)
    | refine G_bndN (fun _ => ?_)
    | refine G_opt ?_ (fun _ => ?_)
    | exact G_retZ (by assumption)
    | exact G_retZX (by assumption)
    | refine G_L_IC (fun _ _ _ => ?_) (fun _ _ _ _ _ => ?_) (fun _ _ => ?_)
    | refine G_J_IC (fun _ _ _ => ?_) (fun _ _ => ?_)
    | refine G_cal (gr_fX8_sectionStart _ _ _) (by assumption) (fun _ _ _ => ?_)
    | refine G_calx (gr_fX8_sectionStart _ _ _) (by assumption) (fun _ _ _ => ?_)
    | exact gr_fX8_sectionStart _ _ _
    | refine G_cal (gr_fX8_codeAt _ _ _) (by assumption) (fun _ _ _ => ?_)
    | refine G_calx (gr_fX8_codeAt _ _ _) (by assumption) (fun _ _ _ => ?_)
    | exact gr_fX8_codeAt _ _ _
    | solve_by_elim (maxDepth := 3))
set_option maxHeartbeats 16000000 in
set_option maxRecDepth 100000 in
theorem gr_fX8_sections (a0 : Nat) (C : Cd) : GO C (fX8_sections a0 C) := by
  unfold fX8_sections
  have hC0 : Gr C C := Gr.rf C
  repeat' (with_reducible first
    | exact G_none
    | exact G_some (by assumption)
    | exact G_some (Gr.sB (by assumption))
    | refine G_ite ?_ ?_
    | refine G_bndC (by first | assumption | exact Gr.sI (by assumption) _ _ _ | exact Gr.sR (by assumption) _ _ _ | exact Gr.sE (by assumption) _ _ _ | exact Gr.sP (by assumption) _ _ _ | exact Gr.sN (by assumption) _ | exact Gr.sA (by assumption) _ _ | exact Gr.sB (by assumption) | exact Gr.sS (by assumption) _ _ _ _) (fun _ _ => ?_)
    | refine G_drf (fun _ => ?_)
    | refine G_bndO (fun _ => ?_)
    | refine G_bndI (fun _ => ?_)
    | refine G_bndN (fun _ => ?_)
    | refine G_opt ?_ (fun _ => ?_)
    | exact G_retZ (by assumption)
    | exact G_retZX (by assumption)
    | refine G_L_IC (fun _ _ _ => ?_) (fun _ _ _ _ _ => ?_) (fun _ _ => ?_)
    | refine G_J_IC (fun _ _ _ => ?_) (fun _ _ => ?_)
    | refine G_L_IIC (fun _ _ _ _ => ?_) (fun _ _ _ _ _ _ => ?_) (fun _ _ => ?_)
    | refine G_J_IIC (fun _ _ _ _ => ?_) (fun _ _ => ?_)
    | refine G_cal (gr_fX8_kindAt _ _ _) (by assumption) (fun _ _ _ => ?_)
    | refine G_calx (gr_fX8_kindAt _ _ _) (by assumption) (fun _ _ _ => ?_)
    | exact gr_fX8_kindAt _ _ _
    | solve_by_elim (maxDepth := 3))
set_option maxHeartbeats 16000000 in
set_option maxRecDepth 100000 in
theorem gr_fX8_settled (a0 : Nat) (C : Cd) : GO C (fX8_settled a0 C) := by
  unfold fX8_settled
  have hC0 : Gr C C := Gr.rf C
  repeat' (with_reducible first
    | exact G_none
    | exact G_some (by assumption)
    | exact G_some (Gr.sB (by assumption))
    | refine G_ite ?_ ?_
    | refine G_bndC (by first | assumption | exact Gr.sI (by assumption) _ _ _ | exact Gr.sR (by assumption) _ _ _ | exact Gr.sE (by assumption) _ _ _ | exact Gr.sP (by assumption) _ _ _ | exact Gr.sN (by assumption) _ | exact Gr.sA (by assumption) _ _ | exact Gr.sB (by assumption) | exact Gr.sS (by assumption) _ _ _ _) (fun _ _ => ?_)
    | refine G_drf (fun _ => ?_)
    | refine G_bndO (fun _ => ?_)
    | refine G_bndI (fun _ => ?_)
    | refine G_bndN (fun _ => ?_)
    | refine G_opt ?_ (fun _ => ?_)
    | exact G_retZ (by assumption)
    | exact G_retZX (by assumption)
    | refine G_L_IC (fun _ _ _ => ?_) (fun _ _ _ _ _ => ?_) (fun _ _ => ?_)
    | refine G_J_IC (fun _ _ _ => ?_) (fun _ _ => ?_)
    | refine G_cal (gr_fX8_init _ _ _) (by assumption) (fun _ _ _ => ?_)
    | refine G_calx (gr_fX8_init _ _ _) (by assumption) (fun _ _ _ => ?_)
    | exact gr_fX8_init _ _ _
    | refine G_cal (gr_fX8_addStretch _ _ _ _ _) (by assumption) (fun _ _ _ => ?_)
    | refine G_calx (gr_fX8_addStretch _ _ _ _ _) (by assumption) (fun _ _ _ => ?_)
    | exact gr_fX8_addStretch _ _ _ _ _
    | refine G_cal (gr_fX8_findEnd _ _ _) (by assumption) (fun _ _ _ => ?_)
    | refine G_calx (gr_fX8_findEnd _ _ _) (by assumption) (fun _ _ _ => ?_)
    | exact gr_fX8_findEnd _ _ _
    | solve_by_elim (maxDepth := 3))
set_option maxHeartbeats 16000000 in
set_option maxRecDepth 100000 in
theorem gr_fX8_writeLeadingOn (a0 : Nat) (a1 : Int) (a2 : Int) (a3 : Option Nat) (C : Cd) : GO C (fX8_writeLeadingOn a0 a1 a2 a3 C) := by
  unfold fX8_writeLeadingOn
  have hC0 : Gr C C := Gr.rf C
  repeat' (with_reducible first
    | exact G_none
    | exact G_some (by assumption)
    | exact G_some (Gr.sB (by assumption))
    | refine G_ite ?_ ?_
    | refine G_bndC (by first | assumption | exact Gr.sI (by assumption) _ _ _ | exact Gr.sR (by assumption) _ _ _ | exact Gr.sE (by assumption) _ _ _ | exact Gr.sP (by assumption) _ _ _ | exact Gr.sN (by assumption) _ | exact Gr.sA (by assumption) _ _ | exact Gr.sB (by assumption) | exact Gr.sS (by assumption) _ _ _ _) (fun _ _ => ?_)
    | refine G_drf (fun _ => ?_)
    | refine G_bndO (fun _ => ?_)
    | refine G_bndI (fun _ => ?_)
    | refine G_bndN (fun _ => ?_)
    | refine G_opt ?_ (fun _ => ?_)
    | exact G_retZ (by assumption)
    | exact G_retZX (by assumption)
    | refine G_L_IC (fun _ _ _ => ?_) (fun _ _ _ _ _ => ?_) (fun _ _ => ?_)
    | refine G_J_IC (fun _ _ _ => ?_) (fun _ _ => ?_)
    | refine G_cal (gr_fX8_clear _ _) (by assumption) (fun _ _ _ => ?_)
    | refine G_calx (gr_fX8_clear _ _) (by assumption) (fun _ _ _ => ?_)
    | exact gr_fX8_clear _ _
    | refine G_cal (gr_fX8_leadsInto _ _ _ _) (by assumption) (fun _ _ _ => ?_)
    | refine G_calx (gr_fX8_leadsInto _ _ _ _) (by assumption) (fun _ _ _ => ?_)
    | exact gr_fX8_leadsInto _ _ _ _
    | refine G_cal (gr_fX8_add _ _ _) (by assumption) (fun _ _ _ => ?_)
    | refine G_calx (gr_fX8_add _ _ _) (by assumption) (fun _ _ _ => ?_)
    | exact gr_fX8_add _ _ _
    | refine G_cal (gr_fX8_codeAt _ _ _) (by assumption) (fun _ _ _ => ?_)
    | refine G_calx (gr_fX8_codeAt _ _ _) (by assumption) (fun _ _ _ => ?_)
    | exact gr_fX8_codeAt _ _ _
    | solve_by_elim (maxDepth := 3))
set_option maxHeartbeats 16000000 in
set_option maxRecDepth 100000 in
theorem gr_fX9_waits (a0 : Nat) (C : Cd) : GO C (fX9_waits a0 C) := by
  unfold fX9_waits
  have hC0 : Gr C C := Gr.rf C
  repeat' (with_reducible first
    | exact G_none
    | exact G_some (by assumption)
    | exact G_some (Gr.sB (by assumption))
    | refine G_ite ?_ ?_
    | refine G_bndC (by first | assumption | exact Gr.sI (by assumption) _ _ _ | exact Gr.sR (by assumption) _ _ _ | exact Gr.sE (by assumption) _ _ _ | exact Gr.sP (by assumption) _ _ _ | exact Gr.sN (by assumption) _ | exact Gr.sA (by assumption) _ _ | exact Gr.sB (by assumption) | exact Gr.sS (by assumption) _ _ _ _) (fun _ _ => ?_)
    | refine G_drf (fun _ => ?_)
    | refine G_bndO (fun _ => ?_)
    | refine G_bndI (fun _ => ?_)
    | refine G_bndN (fun _ => ?_)
    | refine G_opt ?_ (fun _ => ?_)
    | exact G_retZ (by assumption)
    | exact G_retZX (by assumption)
    | refine G_L_C (fun _ _ => ?_) (fun _ _ _ _ => ?_) (fun _ _ => ?_)
    | refine G_J_C (fun _ _ => ?_) (fun _ _ => ?_)
    | refine G_L_IC (fun _ _ _ => ?_) (fun _ _ _ _ _ => ?_) (fun _ _ => ?_)
    | refine G_J_IC (fun _ _ _ => ?_) (fun _ _ => ?_)
    | solve_by_elim (maxDepth := 3))
set_option maxHeartbeats 16000000 in
set_option maxRecDepth 100000 in
theorem gr_fX10_init (a0 : Nat) (a1 : Int) (a2 : Int) (a3 : Option Nat) (C : Cd) : GO C (fX10_init a0 a1 a2 a3 C) := by
  unfold fX10_init
  have hC0 : Gr C C := Gr.rf C
  repeat' (with_reducible first
    | exact G_none
    | exact G_some (by assumption)
    | exact G_some (Gr.sB (by assumption))
    | refine G_ite ?_ ?_
    | refine G_bndC (by first | assumption | exact Gr.sI (by assumption) _ _ _ | exact Gr.sR (by assumption) _ _ _ | exact Gr.sE (by assumption) _ _ _ | exact Gr.sP (by assumption) _ _ _ | exact Gr.sN (by assumption) _ | exact Gr.sA (by assumption) _ _ | exact Gr.sB (by assumption) | exact Gr.sS (by assumption) _ _ _ _) (fun _ _ => ?_)
    | refine G_drf (fun _ => ?_)
    | refine G_bndO (fun _ => ?_)
    | refine G_bndI (fun _ => ?_)
    | refine G_bndN (fun _ => ?_)
    | refine G_opt ?_ (fun _ => ?_)
    | exact G_retZ (by assumption)
    | exact G_retZX (by assumption)
    | solve_by_elim (maxDepth := 3))
set_option maxHeartbeats 16000000 in
set_option maxRecDepth 100000 in
theorem gr_fX11_act (a0 : Nat) (a1 : Int) (C : Cd) : GO C (fX11_act a0 a1 C) := by
  unfold fX11_act
  have hC0 : Gr C C := Gr.rf C
  repeat' (with_reducible first
    | exact G_none
    | exact G_some (by assumption)
    | exact G_some (Gr.sB (by assumption))
    | refine G_ite ?_ ?_
    | refine G_bndC (by first | assumption | exact Gr.sI (by assumption) _ _ _ | exact Gr.sR (by assumption) _ _ _ | exact Gr.sE (by assumption) _ _ _ | exact Gr.sP (by assumption) _ _ _ | exact Gr.sN (by assumption) _ | exact Gr.sA (by assumption) _ _ | exact Gr.sB (by assumption) | exact Gr.sS (by assumption) _ _ _ _) (fun _ _ => ?_)
    | refine G_drf (fun _ => ?_)
    | refine G_bndO (fun _ => ?_)
    | refine G_bndI (fun _ => ?_)
    | refine G_bndN (fun _ => ?_)
    | refine G_opt ?_ (fun _ => ?_)
    | exact G_retZ (by assumption)
    | exact G_retZX (by assumption)
    | refine G_L_C (fun _ _ => ?_) (fun _ _ _ _ => ?_) (fun _ _ => ?_)
    | refine G_J_C (fun _ _ => ?_) (fun _ _ => ?_)
    | solve_by_elim (maxDepth := 3))
set_option maxHeartbeats 16000000 in
set_option maxRecDepth 100000 in
theorem gr_fX11_makeVersion (a0 : Nat) (a1 : Option Nat) (a2 : Int) (C : Cd) : GO C (fX11_makeVersion a0 a1 a2 C) := by
  unfold fX11_makeVersion
  have hC0 : Gr C C := Gr.rf C
  repeat' (with_reducible first
    | exact G_none
    | exact G_some (by assumption)
    | exact G_some (Gr.sB (by assumption))
    | refine G_ite ?_ ?_
    | refine G_bndC (by first | assumption | exact Gr.sI (by assumption) _ _ _ | exact Gr.sR (by assumption) _ _ _ | exact Gr.sE (by assumption) _ _ _ | exact Gr.sP (by assumption) _ _ _ | exact Gr.sN (by assumption) _ | exact Gr.sA (by assumption) _ _ | exact Gr.sB (by assumption) | exact Gr.sS (by assumption) _ _ _ _) (fun _ _ => ?_)
    | refine G_drf (fun _ => ?_)
    | refine G_bndO (fun _ => ?_)
    | refine G_bndI (fun _ => ?_)
    | refine G_bndN (fun _ => ?_)
    | refine G_opt ?_ (fun _ => ?_)
    | exact G_retZ (by assumption)
    | exact G_retZX (by assumption)
    | refine G_cal (gr_fX8_settled _ _) (by assumption) (fun _ _ _ => ?_)
    | refine G_calx (gr_fX8_settled _ _) (by assumption) (fun _ _ _ => ?_)
    | exact gr_fX8_settled _ _
    | refine G_cal (gr_fX10_init _ _ _ _ _) (by assumption) (fun _ _ _ => ?_)
    | refine G_calx (gr_fX10_init _ _ _ _ _) (by assumption) (fun _ _ _ => ?_)
    | exact gr_fX10_init _ _ _ _ _
    | solve_by_elim (maxDepth := 3))
set_option maxHeartbeats 16000000 in
set_option maxRecDepth 100000 in
theorem gr_fX11_noteTitleChange (a0 : Nat) (a1 : Int) (C : Cd) : GO C (fX11_noteTitleChange a0 a1 C) := by
  unfold fX11_noteTitleChange
  have hC0 : Gr C C := Gr.rf C
  repeat' (with_reducible first
    | exact G_none
    | exact G_some (by assumption)
    | exact G_some (Gr.sB (by assumption))
    | refine G_ite ?_ ?_
    | refine G_bndC (by first | assumption | exact Gr.sI (by assumption) _ _ _ | exact Gr.sR (by assumption) _ _ _ | exact Gr.sE (by assumption) _ _ _ | exact Gr.sP (by assumption) _ _ _ | exact Gr.sN (by assumption) _ | exact Gr.sA (by assumption) _ _ | exact Gr.sB (by assumption) | exact Gr.sS (by assumption) _ _ _ _) (fun _ _ => ?_)
    | refine G_drf (fun _ => ?_)
    | refine G_bndO (fun _ => ?_)
    | refine G_bndI (fun _ => ?_)
    | refine G_bndN (fun _ => ?_)
    | refine G_opt ?_ (fun _ => ?_)
    | exact G_retZ (by assumption)
    | exact G_retZX (by assumption)
    | refine G_L_C (fun _ _ => ?_) (fun _ _ _ _ => ?_) (fun _ _ => ?_)
    | refine G_J_C (fun _ _ => ?_) (fun _ _ => ?_)
    | refine G_L_IC (fun _ _ _ => ?_) (fun _ _ _ _ _ => ?_) (fun _ _ => ?_)
    | refine G_J_IC (fun _ _ _ => ?_) (fun _ _ => ?_)
    | refine G_cal (gr_fX11_has _ _ _) (by assumption) (fun _ _ _ => ?_)
    | refine G_calx (gr_fX11_has _ _ _) (by assumption) (fun _ _ _ => ?_)
    | exact gr_fX11_has _ _ _
    | solve_by_elim (maxDepth := 3))
set_option maxHeartbeats 16000000 in
set_option maxRecDepth 100000 in
theorem gr_fX11_addVersion (a0 : Nat) (a1 : Int) (a2 : Option Nat) (a3 : Option Nat) (a4 : Int) (C : Cd) : GO C (fX11_addVersion a0 a1 a2 a3 a4 C) := by
  unfold fX11_addVersion
  have hC0 : Gr C C := Gr.rf C
  repeat' (with_reducible first
    | exact G_none
    | exact G_some (by assumption)
    | exact G_some (Gr.sB (by assumption))
    | refine G_ite ?_ ?_
    | refine G_bndC (by first | assumption | exact Gr.sI (by assumption) _ _ _ | exact Gr.sR (by assumption) _ _ _ | exact Gr.sE (by assumption) _ _ _ | exact Gr.sP (by assumption) _ _ _ | exact Gr.sN (by assumption) _ | exact Gr.sA (by assumption) _ _ | exact Gr.sB (by assumption) | exact Gr.sS (by assumption) _ _ _ _) (fun _ _ => ?_)
    | refine G_drf (fun _ => ?_)
    | refine G_bndO (fun _ => ?_)
    | refine G_bndI (fun _ => ?_)
    | refine G_bndN (fun _ => ?_)
    | refine G_opt ?_ (fun _ => ?_)
    | exact G_retZ (by assumption)
    | exact G_retZX (by assumption)
    | refine G_L_C (fun _ _ => ?_) (fun _ _ _ _ => ?_) (fun _ _ => ?_)
    | refine G_J_C (fun _ _ => ?_) (fun _ _ => ?_)
    | refine G_cal (gr_fX11_makeVersion _ _ _ _) (by assumption) (fun _ _ _ => ?_)
    | refine G_calx (gr_fX11_makeVersion _ _ _ _) (by assumption) (fun _ _ _ => ?_)
    | exact gr_fX11_makeVersion _ _ _ _
    | refine G_cal (gr_fX3_put _ _ _) (by assumption) (fun _ _ _ => ?_)
    | refine G_calx (gr_fX3_put _ _ _) (by assumption) (fun _ _ _ => ?_)
    | exact gr_fX3_put _ _ _
    | refine G_cal (gr_fX11_noteTitleChange _ _ _) (by assumption) (fun _ _ _ => ?_)
    | refine G_calx (gr_fX11_noteTitleChange _ _ _) (by assumption) (fun _ _ _ => ?_)
    | exact gr_fX11_noteTitleChange _ _ _
    | solve_by_elim (maxDepth := 3))
set_option maxHeartbeats 16000000 in
set_option maxRecDepth 100000 in
theorem gr_fX11_addNextVersion (a0 : Nat) (a1 : Int) (a2 : Option Nat) (a3 : Option Nat) (C : Cd) : GO C (fX11_addNextVersion a0 a1 a2 a3 C) := by
  unfold fX11_addNextVersion
  have hC0 : Gr C C := Gr.rf C
  repeat' (with_reducible first
    | exact G_none
    | exact G_some (by assumption)
    | exact G_some (Gr.sB (by assumption))
    | refine G_ite ?_ ?_
    | refine G_bndC (by first | assumption | exact Gr.sI (by assumption) _ _ _ | exact Gr.sR (by assumption) _ _ _ | exact Gr.sE (by assumption) _ _ _ | exact Gr.sP (by assumption) _ _ _ | exact Gr.sN (by assumption) _ | exact Gr.sA (by assumption) _ _ | exact Gr.sB (by assumption) | exact Gr.sS (by assumption) _ _ _ _) (fun _ _ => ?_)
    | refine G_drf (fun _ => ?_)
    | refine G_bndO (fun _ => ?_)
    | refine G_bndI (fun _ => ?_)
    | refine G_bndN (fun _ => ?_)
    | refine G_opt ?_ (fun _ => ?_)
    | exact G_retZ (by assumption)
    | exact G_retZX (by assumption)
    | refine G_cal (gr_fX11_addVersion _ _ _ _ _ _) (by assumption) (fun _ _ _ => ?_)
    | refine G_calx (gr_fX11_addVersion _ _ _ _ _ _) (by assumption) (fun _ _ _ => ?_)
    | exact gr_fX11_addVersion _ _ _ _ _ _
    | solve_by_elim (maxDepth := 3))
set_option maxHeartbeats 16000000 in
set_option maxRecDepth 100000 in
theorem gr_fX11_titleOf (a0 : Nat) (a1 : Int) (C : Cd) : GO C (fX11_titleOf a0 a1 C) := by
  unfold fX11_titleOf
  have hC0 : Gr C C := Gr.rf C
  repeat' (with_reducible first
    | exact G_none
    | exact G_some (by assumption)
    | exact G_some (Gr.sB (by assumption))
    | refine G_ite ?_ ?_
    | refine G_bndC (by first | assumption | exact Gr.sI (by assumption) _ _ _ | exact Gr.sR (by assumption) _ _ _ | exact Gr.sE (by assumption) _ _ _ | exact Gr.sP (by assumption) _ _ _ | exact Gr.sN (by assumption) _ | exact Gr.sA (by assumption) _ _ | exact Gr.sB (by assumption) | exact Gr.sS (by assumption) _ _ _ _) (fun _ _ => ?_)
    | refine G_drf (fun _ => ?_)
    | refine G_bndO (fun _ => ?_)
    | refine G_bndI (fun _ => ?_)
    | refine G_bndN (fun _ => ?_)
    | refine G_opt ?_ (fun _ => ?_)
    | exact G_retZ (by assumption)
    | exact G_retZX (by assumption)
    | refine G_L_C (fun _ _ => ?_) (fun _ _ _ _ => ?_) (fun _ _ => ?_)
    | refine G_J_C (fun _ _ => ?_) (fun _ _ => ?_)
    | solve_by_elim (maxDepth := 3))
set_option maxHeartbeats 16000000 in
set_option maxRecDepth 100000 in
theorem gr_fX11_pageOf (a0 : Nat) (a1 : Int) (C : Cd) : GO C (fX11_pageOf a0 a1 C) := by
  unfold fX11_pageOf
  have hC0 : Gr C C := Gr.rf C
  repeat' (with_reducible first
    | exact G_none
    | exact G_some (by assumption)
    | exact G_some (Gr.sB (by assumption))
    | refine G_ite ?_ ?_
    | refine G_bndC (by first | assumption | exact Gr.sI (by assumption) _ _ _ | exact Gr.sR (by assumption) _ _ _ | exact Gr.sE (by assumption) _ _ _ | exact Gr.sP (by assumption) _ _ _ | exact Gr.sN (by assumption) _ | exact Gr.sA (by assumption) _ _ | exact Gr.sB (by assumption) | exact Gr.sS (by assumption) _ _ _ _) (fun _ _ => ?_)
    | refine G_drf (fun _ => ?_)
    | refine G_bndO (fun _ => ?_)
    | refine G_bndI (fun _ => ?_)
    | refine G_bndN (fun _ => ?_)
    | refine G_opt ?_ (fun _ => ?_)
    | exact G_retZ (by assumption)
    | exact G_retZX (by assumption)
    | refine G_cal (gr_fX11_titleOf _ _ _) (by assumption) (fun _ _ _ => ?_)
    | refine G_calx (gr_fX11_titleOf _ _ _) (by assumption) (fun _ _ _ => ?_)
    | exact gr_fX11_titleOf _ _ _
    | solve_by_elim (maxDepth := 3))
set_option maxHeartbeats 16000000 in
set_option maxRecDepth 100000 in
theorem gr_fX11_mayActAt (a0 : Nat) (a1 : Option Nat) (C : Cd) : GO C (fX11_mayActAt a0 a1 C) := by
  unfold fX11_mayActAt
  have hC0 : Gr C C := Gr.rf C
  repeat' (with_reducible first
    | exact G_none
    | exact G_some (by assumption)
    | exact G_some (Gr.sB (by assumption))
    | refine G_ite ?_ ?_
    | refine G_bndC (by first | assumption | exact Gr.sI (by assumption) _ _ _ | exact Gr.sR (by assumption) _ _ _ | exact Gr.sE (by assumption) _ _ _ | exact Gr.sP (by assumption) _ _ _ | exact Gr.sN (by assumption) _ | exact Gr.sA (by assumption) _ _ | exact Gr.sB (by assumption) | exact Gr.sS (by assumption) _ _ _ _) (fun _ _ => ?_)
    | refine G_drf (fun _ => ?_)
    | refine G_bndO (fun _ => ?_)
    | refine G_bndI (fun _ => ?_)
    | refine G_bndN (fun _ => ?_)
    | refine G_opt ?_ (fun _ => ?_)
    | exact G_retZ (by assumption)
    | exact G_retZX (by assumption)
    | refine G_L_IC (fun _ _ _ => ?_) (fun _ _ _ _ _ => ?_) (fun _ _ => ?_)
    | refine G_J_IC (fun _ _ _ => ?_) (fun _ _ => ?_)
    | solve_by_elim (maxDepth := 3))
set_option maxHeartbeats 16000000 in
set_option maxRecDepth 100000 in
theorem gr_fX11_approve (a0 : Nat) (a1 : Int) (C : Cd) : GO C (fX11_approve a0 a1 C) := by
  unfold fX11_approve
  have hC0 : Gr C C := Gr.rf C
  repeat' (with_reducible first
    | exact G_none
    | exact G_some (by assumption)
    | exact G_some (Gr.sB (by assumption))
    | refine G_ite ?_ ?_
    | refine G_bndC (by first | assumption | exact Gr.sI (by assumption) _ _ _ | exact Gr.sR (by assumption) _ _ _ | exact Gr.sE (by assumption) _ _ _ | exact Gr.sP (by assumption) _ _ _ | exact Gr.sN (by assumption) _ | exact Gr.sA (by assumption) _ _ | exact Gr.sB (by assumption) | exact Gr.sS (by assumption) _ _ _ _) (fun _ _ => ?_)
    | refine G_drf (fun _ => ?_)
    | refine G_bndO (fun _ => ?_)
    | refine G_bndI (fun _ => ?_)
    | refine G_bndN (fun _ => ?_)
    | refine G_opt ?_ (fun _ => ?_)
    | exact G_retZ (by assumption)
    | exact G_retZX (by assumption)
    | refine G_L_C (fun _ _ => ?_) (fun _ _ _ _ => ?_) (fun _ _ => ?_)
    | refine G_J_C (fun _ _ => ?_) (fun _ _ => ?_)
    | refine G_cal (gr_fX11_pageOf _ _ _) (by assumption) (fun _ _ _ => ?_)
    | refine G_calx (gr_fX11_pageOf _ _ _) (by assumption) (fun _ _ _ => ?_)
    | exact gr_fX11_pageOf _ _ _
    | refine G_cal (gr_fX11_mayActAt _ _ _) (by assumption) (fun _ _ _ => ?_)
    | refine G_calx (gr_fX11_mayActAt _ _ _) (by assumption) (fun _ _ _ => ?_)
    | exact gr_fX11_mayActAt _ _ _
    | refine G_cal (gr_fX0_init _ _ _ _ _) (by assumption) (fun _ _ _ => ?_)
    | refine G_calx (gr_fX0_init _ _ _ _ _) (by assumption) (fun _ _ _ => ?_)
    | exact gr_fX0_init _ _ _ _ _
    | solve_by_elim (maxDepth := 3))
set_option maxHeartbeats 16000000 in
set_option maxRecDepth 100000 in
theorem gr_fX11_refuseBelowZero (a0 : Nat) (a1 : Int) (C : Cd) : GO C (fX11_refuseBelowZero a0 a1 C) := by
  unfold fX11_refuseBelowZero
  have hC0 : Gr C C := Gr.rf C
  repeat' (with_reducible first
    | exact G_none
    | exact G_some (by assumption)
    | exact G_some (Gr.sB (by assumption))
    | refine G_ite ?_ ?_
    | refine G_bndC (by first | assumption | exact Gr.sI (by assumption) _ _ _ | exact Gr.sR (by assumption) _ _ _ | exact Gr.sE (by assumption) _ _ _ | exact Gr.sP (by assumption) _ _ _ | exact Gr.sN (by assumption) _ | exact Gr.sA (by assumption) _ _ | exact Gr.sB (by assumption) | exact Gr.sS (by assumption) _ _ _ _) (fun _ _ => ?_)
    | refine G_drf (fun _ => ?_)
    | refine G_bndO (fun _ => ?_)
    | refine G_bndI (fun _ => ?_)
    | refine G_bndN (fun _ => ?_)
    | refine G_opt ?_ (fun _ => ?_)
    | exact G_retZ (by assumption)
    | exact G_retZX (by assumption)
    | solve_by_elim (maxDepth := 3))
set_option maxHeartbeats 16000000 in
set_option maxRecDepth 100000 in
theorem gr_fX11_approvedAt (a0 : Nat) (a1 : Int) (a2 : Int) (C : Cd) : GO C (fX11_approvedAt a0 a1 a2 C) := by
  unfold fX11_approvedAt
  have hC0 : Gr C C := Gr.rf C
  repeat' (with_reducible first
    | exact G_none
    | exact G_some (by assumption)
    | exact G_some (Gr.sB (by assumption))
    | refine G_ite ?_ ?_
    | refine G_bndC (by first | assumption | exact Gr.sI (by assumption) _ _ _ | exact Gr.sR (by assumption) _ _ _ | exact Gr.sE (by assumption) _ _ _ | exact Gr.sP (by assumption) _ _ _ | exact Gr.sN (by assumption) _ | exact Gr.sA (by assumption) _ _ | exact Gr.sB (by assumption) | exact Gr.sS (by assumption) _ _ _ _) (fun _ _ => ?_)
    | refine G_drf (fun _ => ?_)
    | refine G_bndO (fun _ => ?_)
    | refine G_bndI (fun _ => ?_)
    | refine G_bndN (fun _ => ?_)
    | refine G_opt ?_ (fun _ => ?_)
    | exact G_retZ (by assumption)
    | exact G_retZX (by assumption)
    | refine G_cal (gr_fX11_pageOf _ _ _) (by assumption) (fun _ _ _ => ?_)
    | refine G_calx (gr_fX11_pageOf _ _ _) (by assumption) (fun _ _ _ => ?_)
    | exact gr_fX11_pageOf _ _ _
    | refine G_cal (gr_fX11_refuseBelowZero _ _ _) (by assumption) (fun _ _ _ => ?_)
    | refine G_calx (gr_fX11_refuseBelowZero _ _ _) (by assumption) (fun _ _ _ => ?_)
    | exact gr_fX11_refuseBelowZero _ _ _
    | refine G_cal (gr_fX1_expand _ _ _ _ _) (by assumption) (fun _ _ _ => ?_)
    | refine G_calx (gr_fX1_expand _ _ _ _ _) (by assumption) (fun _ _ _ => ?_)
    | exact gr_fX1_expand _ _ _ _ _
    | refine G_cal (gr_fX5_at _ _ _) (by assumption) (fun _ _ _ => ?_)
    | refine G_calx (gr_fX5_at _ _ _) (by assumption) (fun _ _ _ => ?_)
    | exact gr_fX5_at _ _ _
    | solve_by_elim (maxDepth := 3))
set_option maxHeartbeats 16000000 in
set_option maxRecDepth 100000 in
theorem gr_fX11_bringIn (a0 : Nat) (a1 : Int) (a2 : Int) (C : Cd) : GO C (fX11_bringIn a0 a1 a2 C) := by
  unfold fX11_bringIn
  have hC0 : Gr C C := Gr.rf C
  repeat' (with_reducible first
    | exact G_none
    | exact G_some (by assumption)
    | exact G_some (Gr.sB (by assumption))
    | refine G_ite ?_ ?_
    | refine G_bndC (by first | assumption | exact Gr.sI (by assumption) _ _ _ | exact Gr.sR (by assumption) _ _ _ | exact Gr.sE (by assumption) _ _ _ | exact Gr.sP (by assumption) _ _ _ | exact Gr.sN (by assumption) _ | exact Gr.sA (by assumption) _ _ | exact Gr.sB (by assumption) | exact Gr.sS (by assumption) _ _ _ _) (fun _ _ => ?_)
    | refine G_drf (fun _ => ?_)
    | refine G_bndO (fun _ => ?_)
    | refine G_bndI (fun _ => ?_)
    | refine G_bndN (fun _ => ?_)
    | refine G_opt ?_ (fun _ => ?_)
    | exact G_retZ (by assumption)
    | exact G_retZX (by assumption)
    | refine G_L_C (fun _ _ => ?_) (fun _ _ _ _ => ?_) (fun _ _ => ?_)
    | refine G_J_C (fun _ _ => ?_) (fun _ _ => ?_)
    | refine G_cal (gr_fX11_pageOf _ _ _) (by assumption) (fun _ _ _ => ?_)
    | refine G_calx (gr_fX11_pageOf _ _ _) (by assumption) (fun _ _ _ => ?_)
    | exact gr_fX11_pageOf _ _ _
    | refine G_cal (gr_fX11_mayActAt _ _ _) (by assumption) (fun _ _ _ => ?_)
    | refine G_calx (gr_fX11_mayActAt _ _ _) (by assumption) (fun _ _ _ => ?_)
    | exact gr_fX11_mayActAt _ _ _
    | refine G_cal (gr_fX8_isText _ _) (by assumption) (fun _ _ _ => ?_)
    | refine G_calx (gr_fX8_isText _ _) (by assumption) (fun _ _ _ => ?_)
    | exact gr_fX8_isText _ _
    | refine G_cal (gr_fX11_addVersion _ _ _ _ _ _) (by assumption) (fun _ _ _ => ?_)
    | refine G_calx (gr_fX11_addVersion _ _ _ _ _ _) (by assumption) (fun _ _ _ => ?_)
    | exact gr_fX11_addVersion _ _ _ _ _ _
    | refine G_cal (gr_fX8_clear _ _) (by assumption) (fun _ _ _ => ?_)
    | refine G_calx (gr_fX8_clear _ _) (by assumption) (fun _ _ _ => ?_)
    | exact gr_fX8_clear _ _
    | solve_by_elim (maxDepth := 3))
set_option maxHeartbeats 16000000 in
set_option maxRecDepth 100000 in
theorem gr_fX11_noteMemberChange (a0 : Nat) (a1 : Int) (C : Cd) : GO C (fX11_noteMemberChange a0 a1 C) := by
  unfold fX11_noteMemberChange
  have hC0 : Gr C C := Gr.rf C
  repeat' (with_reducible first
    | exact G_none
    | exact G_some (by assumption)
    | exact G_some (Gr.sB (by assumption))
    | refine G_ite ?_ ?_
    | refine G_bndC (by first | assumption | exact Gr.sI (by assumption) _ _ _ | exact Gr.sR (by assumption) _ _ _ | exact Gr.sE (by assumption) _ _ _ | exact Gr.sP (by assumption) _ _ _ | exact Gr.sN (by assumption) _ | exact Gr.sA (by assumption) _ _ | exact Gr.sB (by assumption) | exact Gr.sS (by assumption) _ _ _ _) (fun _ _ => ?_)
    | refine G_drf (fun _ => ?_)
    | refine G_bndO (fun _ => ?_)
    | refine G_bndI (fun _ => ?_)
    | refine G_bndN (fun _ => ?_)
    | refine G_opt ?_ (fun _ => ?_)
    | exact G_retZ (by assumption)
    | exact G_retZX (by assumption)
    | refine G_L_C (fun _ _ => ?_) (fun _ _ _ _ => ?_) (fun _ _ => ?_)
    | refine G_J_C (fun _ _ => ?_) (fun _ _ => ?_)
    | refine G_L_IC (fun _ _ _ => ?_) (fun _ _ _ _ _ => ?_) (fun _ _ => ?_)
    | refine G_J_IC (fun _ _ _ => ?_) (fun _ _ => ?_)
    | solve_by_elim (maxDepth := 3))
end GROW
