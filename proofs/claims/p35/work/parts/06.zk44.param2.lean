/-! A STRETCH GOES OVER A PARAM WITH AN ARGUMENT -/
section PARM2
variable {b : Nat} {C C' C'' C1 : Cd} {E : Env} {VA : Nat → Nat} {up : Int} {s s' s'' s1 : ASt} {r ra f i e : Nat} {acc acc2 acc3 : List Int}
theorem seg_param_have (h : Pre b C E VA up s r f ra i e acc) (hf : f < aNf s) (hi : i < fn E s f) (ek : fg E s f i / 1000 = 3) (hx : (aFr s f).2.2.2.2.2 (fg E s f i % 1000).toNat ≠ -1) (hst : aPs s (aFr s f).2.2.2.1.toNat ((aFr s f).2.2.2.2.2 (fg E s f i % 1000).toNat).toNat = 2) :
   ∃ C', fX1_stepOn (b + 1) (some (b + 333 + r)) C = some ((), C') ∧ Post b C C' E VA up s s r f ra (fE (fg E s f) (fn E s f) i + 1) e (aal acc (aRw s (aFr s f).2.2.2.1.toNat ((aFr s f).2.2.2.2.2 (fg E s f i % 1000).toNat).toNat)) := by
  have hF := h.1.2.2.1 f hf
  have hFP := h.1.2.2.2.1 f hf
  have hok := hFP.2.2.1 i hi
  unfold okt at hok
  have hv9 := hok.2.2.2.2.1 (Or.inl ek)
  obtain ⟨v, hv⟩ : ∃ v : Nat, fg E s f i % 1000 = (v : Int) := ⟨(fg E s f i % 1000).toNat, by omega⟩
  rw [hv, Int.toNat_natCast] at hx
  have hL := h.1.1
  have hW := hL.W
  have hz := hL.sz
  have hI := h.1.2.2.2.2.2.2.1
  obtain ⟨hr0, hf41, h900, h901, h902⟩ := h.2.2.2.2.1
  have ha := X2_argumentAt_ hL hf41 (show v < 10 by omega)
  rw [hF.2.2 v (by omega)] at ha
  have hap := (hFP.2.2.2 v (by omega)).resolve_left hx
  have hcl : (aFr s f).2.2.2.1 ≠ -1 := by omega
  obtain ⟨g, hg⟩ : ∃ g : Nat, (aFr s f).2.2.2.1 = (g : Int) := ⟨(aFr s f).2.2.2.1.toNat, by omega⟩
  obtain ⟨p, hp⟩ : ∃ p : Nat, (aFr s f).2.2.2.2.2 v = (p : Int) := ⟨((aFr s f).2.2.2.2.2 v).toNat, by omega⟩
  have h503 := hF.2.1.resolve_left (fun z => hcl z.1)
  rw [hv, Int.toNat_natCast, hg, hp, Int.toNat_natCast, Int.toNat_natCast] at hst
  rw [hg, hp, Int.toNat_natCast, Int.toNat_natCast] at hap
  rw [hg, Int.toNat_natCast] at h503
  rw [hp] at ha
  have hgn : g < aNf s := by omega
  have hpn : p < fn E s g := by omega
  have hm : mkB (fg E s g p / 1000) = true := hap.2.2.2.2
  have n30 := h.1.n30 hgn
  have hMk := h.1.2.2.2.2.1 g p hgn hpn hm
  have hw1 : ¬ w32 (p : Int) = w32 (-1) := by rw [w32_n (by omega), show w32 (-1) = -1 from rfl]; omega
  rw [hv, Int.toNat_natCast, hg, hp, Int.toNat_natCast, Int.toNat_natCast]
  rw [hst] at hMk
  obtain ⟨m1, m2⟩ := hMk
  obtain ⟨a, m3, m4⟩ := m2 (by decide)
  have hra := m4 rfl
  have ne := XS.ne h.1 h.2.2.1 hgn hpn hst m3
  have hrow := (X2_rowAt_ hL (show g < 41 by omega) (show p < 30 by omega)).2 m1
  rw [m3] at hrow
  obtain ⟨C1, e1, r1, f1, z1, z2⟩ := X5_addAll_ hW (fun z => ne z.symm) h.2.2.2.1 hra
  have p1 := post_plain (s' := s) (acc' := aal acc (aRw s g p)) (i' := i) h (f1.mono (fun _ _ _ _ z => Or.inl (Or.inr (Or.inl z)))) ⟨rfl, rfl, rfl, rfl, rfl⟩ (h.1.2.2.2.2.2.1.of (fun k _ _ => f1.fI (by omega) (by have := h.1.cur0 h.2.2.1; unfold sRow; omega))) r1 ((f1.fI (hW _ (hL.uo hr0).1) (by unfold sRow; omega)).trans h902) ⟨z1, z2⟩
  have hL1 := p1.1.1
  have hT1 := p1.1.stl hf
  have hc : fX1_giveArgument (b + 1) (some (b + 333 + r)) (fg E s f i % 1000) C = some (1, cSetI C1 902 (b + 333 + r) (fE (fg E s f) (fn E s f) i : Int)) := by
    rw [hv]
    unfold fX1_giveArgument
    rw [drf_some, if_pos (hL.uo hr0), bnd_eq, drf_eq h900, if_pos (hL.fo hf41), cal_of ha, bnd_eq, if_neg hw1, if_pos (hL.fo hf41), bnd_eq, h503.2.2, opt_some, if_pos (hL.fo hf41), bnd_eq, drf_some, if_pos (hL.fo (show g < 41 by omega)), cal_of hrow, opt_some, if_pos (hL.uo hr0), bnd_eq, drf_eq h901, if_pos h.2.2.2.1.ob, cal_of e1]
    rw [if_pos (hL1.fo hf41), bnd_eq, (p1.1.2.2.1 f hf).1.1, if_pos (hL1.uo hr0), drf_some, if_pos hT1.1.isO_, pre_at p1.pre, cal_of (hT1.end_ hi), if_pos (hL1.uo hr0), bnd_eq]
  have p2 := p1.tr (post_at p1.pre (fE (fg E s f) (fn E s f) i))
  have hs := step_param1 hL h.2.2.2.2.1 hF.1.1 (h.1.stl hf) hi ek hc (p2.1.1.uo hr0)
  rw [pre_at p2.pre] at hs
  exact ⟨_, hs, p2.tr (post_at p2.pre (fE (fg E s f) (fn E s f) i + 1))⟩
theorem seg_param_new (h : Pre b C E VA up s r f ra i e acc) (hf : f < aNf s) (hi : i < fn E s f) (ek : fg E s f i / 1000 = 3) (hx : (aFr s f).2.2.2.2.2 (fg E s f i % 1000).toNat ≠ -1) (hst : aPs s (aFr s f).2.2.2.1.toNat ((aFr s f).2.2.2.2.2 (fg E s f i % 1000).toNat).toNat = 0) (hr : r < 511) :
   ∃ C' a, fX1_stepOn (b + 1) (some (b + 333 + r)) C = some ((), C') ∧ a ≠ ra ∧ cP C' (b + 169 + 4 * (aFr s f).2.2.2.1.toNat + 2) ((aFr s f).2.2.2.2.2 (fg E s f i % 1000).toNat).toNat = some a ∧ (aFr s f).2.2.2.1.toNat < aNf s ∧ ((aFr s f).2.2.2.2.2 (fg E s f i % 1000).toNat).toNat < fn E s (aFr s f).2.2.2.1.toNat ∧ mkB (fg E s (aFr s f).2.2.2.1.toNat ((aFr s f).2.2.2.2.2 (fg E s f i % 1000).toNat).toNat / 1000) = true ∧
     Sub b C C' E VA up s (uPs s (aFr s f).2.2.2.1.toNat ((aFr s f).2.2.2.2.2 (fg E s f i % 1000).toNat).toNat 1) r f ra i e acc (aFr s f).2.2.2.1.toNat a (((aFr s f).2.2.2.2.2 (fg E s f i % 1000).toNat).toNat + 1) (fE (fg E s (aFr s f).2.2.2.1.toNat) (fn E s (aFr s f).2.2.2.1.toNat) ((aFr s f).2.2.2.2.2 (fg E s f i % 1000).toNat).toNat) [] := by
  have hF := h.1.2.2.1 f hf
  have hFP := h.1.2.2.2.1 f hf
  have hok := hFP.2.2.1 i hi
  unfold okt at hok
  have hv9 := hok.2.2.2.2.1 (Or.inl ek)
  obtain ⟨v, hv⟩ : ∃ v : Nat, fg E s f i % 1000 = (v : Int) := ⟨(fg E s f i % 1000).toNat, by omega⟩
  rw [hv, Int.toNat_natCast] at hx
  have hL := h.1.1
  have hW := hL.W
  have hz := hL.sz
  have hI := h.1.2.2.2.2.2.2.1
  obtain ⟨hr0, hf41, h900, h901, h902⟩ := h.2.2.2.2.1
  have ha := X2_argumentAt_ hL hf41 (show v < 10 by omega)
  rw [hF.2.2 v (by omega)] at ha
  have hap := (hFP.2.2.2 v (by omega)).resolve_left hx
  have hcl : (aFr s f).2.2.2.1 ≠ -1 := by omega
  obtain ⟨g, hg⟩ : ∃ g : Nat, (aFr s f).2.2.2.1 = (g : Int) := ⟨(aFr s f).2.2.2.1.toNat, by omega⟩
  obtain ⟨p, hp⟩ : ∃ p : Nat, (aFr s f).2.2.2.2.2 v = (p : Int) := ⟨((aFr s f).2.2.2.2.2 v).toNat, by omega⟩
  have h503 := hF.2.1.resolve_left (fun z => hcl z.1)
  rw [hv, Int.toNat_natCast, hg, hp, Int.toNat_natCast, Int.toNat_natCast] at hst
  rw [hg, hp, Int.toNat_natCast, Int.toNat_natCast] at hap
  rw [hg, Int.toNat_natCast] at h503
  rw [hp] at ha
  have hgn : g < aNf s := by omega
  have hpn : p < fn E s g := by omega
  have hm : mkB (fg E s g p / 1000) = true := hap.2.2.2.2
  have n30 := h.1.n30 hgn
  have hMk := h.1.2.2.2.2.1 g p hgn hpn hm
  have hw1 : ¬ w32 (p : Int) = w32 (-1) := by rw [w32_n (by omega), show w32 (-1) = -1 from rfl]; omega
  rw [hv, Int.toNat_natCast, hg, hp, Int.toNat_natCast, Int.toNat_natCast]
  rw [hst] at hMk
  have hrow := (X2_rowAt_ hL (show g < 41 by omega) (show p < 30 by omega)).1 hMk.1
  obtain ⟨C', a, e1, ne, cp, sb⟩ := part_new h hgn hpn hm hst hr
  have hc : fX1_giveArgument (b + 1) (some (b + 333 + r)) (fg E s f i % 1000) C = some (0, C') := by
    rw [hv]
    unfold fX1_giveArgument
    rw [drf_some, if_pos (hL.uo hr0), bnd_eq, drf_eq h900, if_pos (hL.fo hf41), cal_of ha, bnd_eq, if_neg hw1, if_pos (hL.fo hf41), bnd_eq, h503.2.2, opt_some, if_pos (hL.fo hf41), bnd_eq, drf_some, if_pos (hL.fo (show g < 41 by omega)), cal_of hrow, opt_none, if_pos (hL.fo hf41), bnd_eq, if_pos hL.oe, h503.2.2, cal_of e1]
  exact ⟨C', a, step_param0 hL h.2.2.2.2.1 hF.1.1 (h.1.stl hf) hi ek hc, ne, cp, hgn, hpn, hm, sb⟩
end PARM2
