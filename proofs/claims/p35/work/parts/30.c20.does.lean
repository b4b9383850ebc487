/-! DEEDS AS THE LAW DOES THEM: a result, or the number of an exception -/
section DOE
variable {b : Nat} {a2 a3 a4 : Int} {C C' : Cd} {v : Int ⊕ Nat}
def dxv (v : Int ⊕ Nat) : Int := match v with
  | .inl r => r
  | .inr e => if e = 2 then -11 else if e = 0 then -12 else -13
def dxo (v : Int ⊕ Nat) : Prop := match v with
  | .inl _ => True
  | .inr e => e < 3
theorem calh_dx {X : Option ((Int ⊕ Nat) × Cd)} (h : X = some (v, C')) (he : dxo v) : calh X (fun (r : Int) (C2 : Cd) => some (r, C2)) doesX = some (dxv v, C') := by
  rcases v with r | e
  · exact calh_of h _ _
  · rw [calh_ofx h]
    have e3 : e = 0 ∨ e = 1 ∨ e = 2 := by have z : e < 3 := he; omega
    rcases e3 with z | z | z <;> subst z <;> rfl
theorem dox_0 (h : fX11_create b a2 C = some (v, C')) (he : dxo v) (ho : isO C b 14) : fW_does b 0 a2 a3 a4 C = some (dxv v, C') := by
  unfold fW_does
  rw [bnd_eq, if_neg (by decide), if_pos ho]
  exact calh_dx h he
theorem dox_1 (h : fX11_edit b a2 a3 a4 C = some (v, C')) (he : dxo v) (ho : isO C b 14) : fW_does b 1 a2 a3 a4 C = some (dxv v, C') := by
  unfold fW_does
  rw [bnd_eq, if_pos (by decide), if_neg (by decide), if_pos ho]
  exact calh_dx h he
theorem dox_2 (h : fX11_undo b a2 a3 C = some (v, C')) (he : dxo v) (ho : isO C b 14) : fW_does b 2 a2 a3 a4 C = some (dxv v, C') := by
  unfold fW_does
  rw [bnd_eq, if_pos (by decide), if_pos (by decide), if_neg (by decide), if_pos ho]
  exact calh_dx h he
theorem dox_3 (h : fX11_bringIn b a2 a3 C = some (v, C')) (he : dxo v) (ho : isO C b 14) : fW_does b 3 a2 a3 a4 C = some (dxv v, C') := by
  unfold fW_does
  rw [bnd_eq, if_pos (by decide), if_pos (by decide), if_pos (by decide), if_neg (by decide), if_pos ho]
  exact calh_dx h he
theorem dox_4 (h : fX11_move b a2 a3 C = some (v, C')) (he : dxo v) (ho : isO C b 14) : fW_does b 4 a2 a3 a4 C = some (dxv v, C') := by
  unfold fW_does
  rw [bnd_eq, if_pos (by decide), if_pos (by decide), if_pos (by decide), if_pos (by decide), if_neg (by decide), if_pos ho]
  exact calh_dx h he
theorem dox_5 (h : fX11_moveTree b a2 a3 C = some (v, C')) (he : dxo v) (ho : isO C b 14) : fW_does b 5 a2 a3 a4 C = some (dxv v, C') := by
  unfold fW_does
  rw [bnd_eq, if_pos (by decide), if_pos (by decide), if_pos (by decide), if_pos (by decide), if_pos (by decide), if_neg (by decide), if_pos ho]
  exact calh_dx h he
theorem dox_6 (h : fX11_approve b a2 C = some (v, C')) (he : dxo v) (ho : isO C b 14) : fW_does b 6 a2 a3 a4 C = some (dxv v, C') := by
  unfold fW_does
  rw [bnd_eq, if_pos (by decide), if_pos (by decide), if_pos (by decide), if_pos (by decide), if_pos (by decide), if_pos (by decide), if_neg (by decide), if_pos ho]
  exact calh_dx h he
theorem dox_8 (h : fX11_translate b a2 a3 a4 C = some (v, C')) (he : dxo v) (ho : isO C b 14) : fW_does b 8 a2 a3 a4 C = some (dxv v, C') := by
  unfold fW_does
  rw [bnd_eq, if_pos (by decide), if_pos (by decide), if_pos (by decide), if_pos (by decide), if_pos (by decide), if_pos (by decide), if_pos (by decide), if_pos (by decide), if_neg (by decide), if_pos ho]
  exact calh_dx h he
theorem dox_7 {w : Nat} (h : fX11_read b a2 (w : Int) C = some (v, C')) (he : dxo v) (ho : isO C b 14) (hw : w = 1 ∧ w32 a3 = w32 1 ∨ w = 0 ∧ ¬ w32 a3 = w32 1) : fW_does b 7 a2 a3 a4 C = some (dxv v, C') := by
  unfold fW_does
  rw [bnd_eq, if_pos (by decide), if_pos (by decide), if_pos (by decide), if_pos (by decide), if_pos (by decide), if_pos (by decide), if_pos (by decide), if_neg (by decide), bnd_eq]
  rcases hw with ⟨w1, w2⟩ | ⟨w1, w2⟩
  · subst w1
    rw [if_neg (fun z => z w2)]; (try dsimp only); rw [if_pos ho]
    exact calh_dx h he
  · subst w1
    rw [if_pos w2]; (try dsimp only); rw [if_pos ho]
    exact calh_dx h he
end DOE
