/-! THE CLASS'S STEP AT A CALL, A PARAM, A FUNC -/
section STP2
variable {b : Nat} {C C' C1 C2 C3 : Cd} {r f ra i t n : Nat} {g : Nat → Int}
theorem step_call (hL : Lay b C) (hA : RunAt b C r f ra i) (h504 : cR C 504 (b + 169 + 4 * f) = some t) (hT : Stl C t g n) (hi : i < n) (ek : g i / 1000 = 2) (hc : fX1_giveCall (b + 1) (some (b + 333 + r)) (i : Int) (g i % 1000) (cSetI C 902 (b + 333 + r) (fE g n i : Int)) = some ((), C')) (hO : isO C' (b + 333 + r) 9) :
   fX1_stepOn (b + 1) (some (b + 333 + r)) C = some ((), cSetI C' 902 (b + 333 + r) (cI C' 902 (b + 333 + r) + 1)) := by
  obtain ⟨hr, hf, h900, h901, h902⟩ := hA
  have hU := hL.uo hr
  have hF := hL.fo hf
  have hTo := hT.1.isO_
  have hV := hT.1.value hi
  have hK := hT.1.kind hi
  unfold fX1_stepOn
  rw [drf_some, if_pos hU, bnd_eq, drf_eq h900, if_pos hF, bnd_eq, if_pos hU, bnd_eq, drf_eq h504, if_pos hTo, h902, cal_of hV, if_pos hTo, cal_of hK, bnd_eq, bnd_eq, ek]
  rw [if_neg (by decide), if_neg (by decide), if_pos (by decide), if_pos hTo, cal_of (hT.end_ hi), if_pos hU, bnd_eq, if_pos (show isO (cSetI C 902 _ _) (b + 1) 4 from hL.oe), cal_of hc]
  try dsimp only
  rw [if_pos hO, if_pos hO, bnd_eq]
theorem step_param1 (hL : Lay b C) (hA : RunAt b C r f ra i) (h504 : cR C 504 (b + 169 + 4 * f) = some t) (hT : Stl C t g n) (hi : i < n) (ek : g i / 1000 = 3) (hc : fX1_giveArgument (b + 1) (some (b + 333 + r)) (g i % 1000) C = some (1, C')) (hO : isO C' (b + 333 + r) 9) :
   fX1_stepOn (b + 1) (some (b + 333 + r)) C = some ((), cSetI C' 902 (b + 333 + r) (cI C' 902 (b + 333 + r) + 1)) := by
  obtain ⟨hr, hf, h900, h901, h902⟩ := hA
  have hU := hL.uo hr
  have hF := hL.fo hf
  have hTo := hT.1.isO_
  have hV := hT.1.value hi
  have hK := hT.1.kind hi
  unfold fX1_stepOn
  rw [drf_some, if_pos hU, bnd_eq, drf_eq h900, if_pos hF, bnd_eq, if_pos hU, bnd_eq, drf_eq h504, if_pos hTo, h902, cal_of hV, if_pos hTo, cal_of hK, bnd_eq, bnd_eq, ek]
  rw [if_neg (by decide), if_neg (by decide), if_neg (by decide), if_pos (by decide), if_pos hL.oe, cal_of hc, if_pos (by decide)]
  try dsimp only
  rw [if_pos hO, if_pos hO, bnd_eq]
theorem step_param0 (hL : Lay b C) (hA : RunAt b C r f ra i) (h504 : cR C 504 (b + 169 + 4 * f) = some t) (hT : Stl C t g n) (hi : i < n) (ek : g i / 1000 = 3) (hc : fX1_giveArgument (b + 1) (some (b + 333 + r)) (g i % 1000) C = some (0, C')) :
   fX1_stepOn (b + 1) (some (b + 333 + r)) C = some ((), C') := by
  obtain ⟨hr, hf, h900, h901, h902⟩ := hA
  have hU := hL.uo hr
  have hF := hL.fo hf
  have hTo := hT.1.isO_
  have hV := hT.1.value hi
  have hK := hT.1.kind hi
  unfold fX1_stepOn
  rw [drf_some, if_pos hU, bnd_eq, drf_eq h900, if_pos hF, bnd_eq, if_pos hU, bnd_eq, drf_eq h504, if_pos hTo, h902, cal_of hV, if_pos hTo, cal_of hK, bnd_eq, bnd_eq, ek]
  rw [if_neg (by decide), if_neg (by decide), if_neg (by decide), if_pos (by decide), if_pos hL.oe, cal_of hc, if_neg (by decide)]
theorem step_func1 (hL : Lay b C) (hA : RunAt b C r f ra i) (h504 : cR C 504 (b + 169 + 4 * f) = some t) (hT : Stl C t g n) (hi : i < n) (ek : g i / 1000 = 4) (hl : fX1_listParts (b + 1) (some t) (i : Int) C = some ((), C1)) (hL1 : Lay b C1) (hc : fX1_giveFunction (b + 1) (some (b + 333 + r)) (g i % 1000) C1 = some (1, C2)) (hL2 : Lay b C2) (hT2 : Stl C2 t g n) :
   fX1_stepOn (b + 1) (some (b + 333 + r)) C = some ((), cSetI C2 902 (b + 333 + r) ((fE g n i : Int) + 1)) := by
  obtain ⟨hr, hf, h900, h901, h902⟩ := hA
  have hU := hL.uo hr
  have hF := hL.fo hf
  have hTo := hT.1.isO_
  have hV := hT.1.value hi
  have hK := hT.1.kind hi
  unfold fX1_stepOn
  rw [drf_some, if_pos hU, bnd_eq, drf_eq h900, if_pos hF, bnd_eq, if_pos hU, bnd_eq, drf_eq h504, if_pos hTo, h902, cal_of hV, if_pos hTo, cal_of hK, bnd_eq, bnd_eq, ek]
  have hU2 := hL2.uo hr
  rw [if_neg (by decide), if_neg (by decide), if_neg (by decide), if_neg (by decide), if_pos (by decide), if_pos hL.oe, cal_of hl, if_pos hL1.oe, cal_of hc, if_pos (by decide), if_pos hT2.1.isO_, cal_of (hT2.end_ hi), if_pos hU2, bnd_eq]
  try dsimp only
  rw [if_pos (show isO (cSetI C2 902 _ _) (b + 333 + r) 9 from hU2), if_pos (show isO (cSetI C2 902 _ _) (b + 333 + r) 9 from hU2), bnd_eq, cI_I1, setI_twice]
theorem step_func0 (hL : Lay b C) (hA : RunAt b C r f ra i) (h504 : cR C 504 (b + 169 + 4 * f) = some t) (hT : Stl C t g n) (hi : i < n) (ek : g i / 1000 = 4) (hl : fX1_listParts (b + 1) (some t) (i : Int) C = some ((), C1)) (hL1 : Lay b C1) (hc : fX1_giveFunction (b + 1) (some (b + 333 + r)) (g i % 1000) C1 = some (0, C2)) (hL2 : Lay b C2) (ho : fX1_openPart (b + 1) (cR C2 900 (b + 333 + r)) (cI C2 414 (b + 1)) C2 = some ((), C3)) :
   fX1_stepOn (b + 1) (some (b + 333 + r)) C = some ((), C3) := by
  obtain ⟨hr, hf, h900, h901, h902⟩ := hA
  have hU := hL.uo hr
  have hF := hL.fo hf
  have hTo := hT.1.isO_
  have hV := hT.1.value hi
  have hK := hT.1.kind hi
  unfold fX1_stepOn
  rw [drf_some, if_pos hU, bnd_eq, drf_eq h900, if_pos hF, bnd_eq, if_pos hU, bnd_eq, drf_eq h504, if_pos hTo, h902, cal_of hV, if_pos hTo, cal_of hK, bnd_eq, bnd_eq, ek]
  have hU2 := hL2.uo hr
  rw [if_neg (by decide), if_neg (by decide), if_neg (by decide), if_neg (by decide), if_pos (by decide), if_pos hL.oe, cal_of hl, if_pos hL1.oe, cal_of hc, if_neg (by decide), if_pos hU2, bnd_eq, if_pos hL2.oe, if_pos hL2.oe, cal_of ho]
end STP2
