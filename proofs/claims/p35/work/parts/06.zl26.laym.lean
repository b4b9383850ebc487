/-! WHAT IS MEANT, on both sides -/
section LAM
variable {b : Nat} {C C' C1 : Cd} {M M' M1 : Md} {d f g : Nat → Int} {nv n m dn : Nat}
def mnG (f d : Nat → Int) (m dn : Nat) (s : Int) : Nat → Int := if s = -1 then cat (fun _ => 0) 0 (fun i => d (0 + i)) else cat (cat (cat (fun _ => 0) 0 (fun i => f (0 + i))) (0 + (sst f m s.toNat - 0)) (fun i => d (0 + i))) (0 + (sst f m s.toNat - 0) + (dn - 0)) (fun i => f (sst f m (s.toNat + 1) + i))
def mnN (f : Nat → Int) (m dn : Nat) (s : Int) : Nat := if s = -1 then 0 + (dn - 0) else 0 + (sst f m s.toNat - 0) + (dn - 0) + (m - sst f m (s.toNat + 1))
theorem mnN_le {s : Int} : mnN f m dn s ≤ m + dn := by
  unfold mnN
  have a := sst_mono f m (show s.toNat ≤ s.toNat + 1 by omega)
  have a2 := sst_le f m (s.toNat + 1)
  split <;> omega
theorem X11_mean_ (hL : Lay b C) {src capb : Nat} (hd : TxV C (b + 845) 30 d dn) (hb : TxV C src capb f m) (hne : src ≠ b + 848) (hm : ∃ g n, TxV C (b + 848) 60 g n) (h30 : m ≤ 30) {s : Int} (hs : s = -1 ∨ (0 ≤ s ∧ s < 1 + (secs f m : Int))) :
   ∃ C', fX11_mean b (some src) s C = some ((), C') ∧ TxV C' (b + 848) 60 (mnG f d m dn s) (mnN f m dn s) ∧ TxOnly C C' (b + 848) := by
  obtain ⟨gm, nm, tm⟩ := hm
  have dn30 := hd.1.2.2.1
  obtain ⟨C2, e2, t2, o2⟩ := X8_clear_ tm.1 (fun _ => (0 : Int))
  have d2 := hd.keep o2 (by omega)
  have b2 := hb.keep o2 hne
  have ob2 : isO C2 b 14 := txo_o o2 hL.o
  have r4 : cR C2 1404 b = some (b + 848) := by rw [o2.1]; exact hL.r4
  have r3 : cR C2 1403 b = some (b + 845) := by rw [o2.1]; exact hL.r3
  unfold fX11_mean
  rw [if_pos hL.o, bnd_eq, hL.r4, drf_some, if_pos tm.isO_, cal_of e2]
  by_cases c : s = -1
  · obtain ⟨C3, e3, t3, o3⟩ := X8_addStretch_ (a := b + 848) (p := b + 845) (capp := 30) (np := dn) (f := d) (by omega) (fr := 0) (to := dn) (Nat.le_refl _) C2 _ 0 (Nat.zero_le _) t2 d2 (by omega)
    have e3' : fX8_addStretch (b + 848) (some (b + 845)) 0 (dn : Int) C2 = some ((), C3) := e3
    refine ⟨C3, ?_, ?_, o2.tr o3⟩
    · rw [if_neg (fun z => z (by rw [c])), if_pos ob2, bnd_eq, r4, if_pos ob2, bnd_eq, r3, if_pos ob2, bnd_eq, drf_some, if_pos d2.isO_, drf_some, if_pos t2.isO_, d2.sz, cal_of e3']
    · unfold mnG mnN
      rw [if_pos c, if_pos c]
      exact t3
  · obtain ⟨k, rfl⟩ : ∃ k : Nat, s = (k : Int) := ⟨s.toNat, by omega⟩
    have hk : k < 1 + secs f m := by omega
    have sl := secs_le f m
    have s1 := X8_sectionStart_ b2 (s := k) (by omega)
    have s2 := X8_sectionStart_ b2 (s := k + 1) (by omega)
    have a1 := sst_mono f m (show k ≤ k + 1 by omega)
    have a2 := sst_le f m (k + 1)
    obtain ⟨C3, e3, t3, o3⟩ := X8_addStretch_ (a := b + 848) (p := src) (capp := capb) (np := m) (f := f) hne (fr := 0) (to := sst f m k) (by omega) C2 _ 0 (Nat.zero_le _) t2 b2 (by omega)
    have d3 := d2.keep o3 (by omega)
    have b3 := b2.keep o3 hne
    have ob3 : isO C3 b 14 := txo_o o3 ob2
    have r43 : cR C3 1404 b = some (b + 848) := by rw [o3.1]; exact r4
    have r33 : cR C3 1403 b = some (b + 845) := by rw [o3.1]; exact r3
    obtain ⟨C4, e4, t4, o4⟩ := X8_addStretch_ (a := b + 848) (p := b + 845) (capp := 30) (np := dn) (f := d) (by omega) (fr := 0) (to := dn) (Nat.le_refl _) C3 _ _ (Nat.zero_le _) t3 d3 (by omega)
    have b4 := b3.keep o4 hne
    have ob4 : isO C4 b 14 := txo_o o4 ob3
    have r44 : cR C4 1404 b = some (b + 848) := by rw [o4.1]; exact r43
    obtain ⟨C5, e5, t5, o5⟩ := X8_addStretch_ (a := b + 848) (p := src) (capp := capb) (np := m) (f := f) hne (fr := sst f m (k + 1)) (to := m) (Nat.le_refl _) C4 _ _ a2 t4 b4 (by omega)
    have e3' : fX8_addStretch (b + 848) (some src) 0 (sst f m k : Int) C2 = some ((), C3) := e3
    have e4' : fX8_addStretch (b + 848) (some (b + 845)) 0 (dn : Int) C3 = some ((), C4) := e4
    refine ⟨C5, ?_, ?_, ((o2.tr o3).tr o4).tr o5⟩
    · rw [if_pos (by rw [w32_n (by omega), show w32 (-1) = -1 from rfl]; omega), drf_some, if_pos b2.isO_, cal_of s1, if_pos b2.isO_, show (k : Int) + 1 = ((k + 1 : Nat) : Int) by omega, cal_of s2, if_pos ob2, bnd_eq, r4, drf_some, if_pos t2.isO_, cal_of e3', if_pos ob3, bnd_eq, r43, if_pos ob3, bnd_eq, r33, if_pos ob3, bnd_eq, drf_some, if_pos d3.isO_, drf_some, if_pos t3.isO_, d3.sz, cal_of e4', if_pos ob4, bnd_eq, r44, if_pos b4.isO_, drf_some, if_pos t4.isO_, b4.sz, cal_of e5]
    · unfold mnG mnN
      rw [if_neg c, if_neg c, Int.toNat_natCast]
      exact t5
abbrev oMn : Nat → Prop := fun k => k = 77 ∨ k = 75
abbrev rMn : Nat → Prop := fun k => k = 76 ∨ k = 74
/-- what is laid is copied -/
theorem layCopy_ (hr : RV M g n) (hn : n ≤ 60) {J : Md → Option (Unit × Md)}
   (hJ : J = fun (M_101 : Md) => bnd (mSet M_101 75 (M_101.1 77)) fun (M2 : Md) =>
bnd (lpn (fun (_ : Int) (_ : Md) => (none : Option (Unit × Md))) (fun L111 (v3_111 : Int) (M_111 : Md) =>
if w32 (M_111.1 77) ≤ w32 v3_111 then
some ((), M_111)
else
if inR v3_111 (mLen 76) then
if inR v3_111 (mLen 74) then bnd (mPut M_111 74 (ix v3_111) (M_111.2 76 (ix v3_111))) fun (M3 : Md) =>
L111 (v3_111 + 1) M3
else none
else none) FU) fun J111 =>
J111 0 M2) : ∃ M', J M = some ((), M') ∧ RV M' g n ∧ MV M' 74 0 g n ∧ M'.1 75 = (n : Int) ∧ MO oMn rMn M M' := by
  obtain ⟨r1, r2, r3, r4, r5⟩ := hr
  rw [hJ]
  dsimp only
  rw [bnd_eq, bnd_eq, r1]
  have z1 : ∀ j, j ≠ 75 → (mSet M 75 (n : Int)).1 j = M.1 j := fun j hj => mS2 _ _ hj
  refine (lpn_rule (P := fun mm (L : Int → Md → Option (Unit × Md)) => ∀ (i : Nat) (M1 : Md), i ≤ n → n - i < mm → M1.1 = (mSet M 75 (n : Int)).1 → (∀ k, k ≠ 74 → M1.2 k = M.2 k) → (∀ k, k < i → M1.2 74 k = g k) → ∃ M', L (i : Int) M1 = some ((), M') ∧ RV M' g n ∧ MV M' 74 0 g n ∧ M'.1 75 = (n : Int) ∧ MO oMn rMn M M') (fun _ _ _ h => absurd h (Nat.not_lt_zero _)) (fun mm L hL i M1 hi hm q1 q2 q3 => ?_) FU) 0 (mSet M 75 (n : Int)) (Nat.zero_le _) (by unfold FU; omega) rfl (fun _ _ => rfl) (fun k hk => absurd hk (Nat.not_lt_zero _))
  have e77 : M1.1 77 = (n : Int) := by rw [q1, z1 77 (by decide)]; exact r1
  rw [e77]
  rcases Nat.lt_or_ge i n with hlt | hge
  · have a1 := r4 i hlt
    rw [Nat.zero_add] at a1
    rw [if_neg (by rw [w32_n (by omega), w32_n (by omega)]; omega), if_pos (inM (n := 200) rfl (by omega) (by decide)), if_pos (inM (n := 60) rfl (by omega) (by decide)), bnd_eq, ix_n (by omega), q2 76 (by decide), a1, show (i : Int) + 1 = ((i + 1 : Nat) : Int) by omega]
    refine hL (i + 1) _ hlt (by omega) q1 (fun k hk => (mPut_ne M1 _ _ hk).trans (q2 k hk)) (fun k hk => ?_)
    by_cases c : k = i
    · subst c; exact p2_1 _ _ _ _
    · rw [p2_2 (k := 74) (k' := 74) _ _ (Or.inr c)]; exact q3 k (by omega)
  · have e : i = n := by omega
    subst e
    rw [if_pos (Int.le_refl _)]
    refine ⟨M1, rfl, ⟨e77, r2, r3, fun k hk => by rw [q2 76 (by decide)]; exact r4 k hk, r5⟩, ⟨by rw [ml_74]; omega, by decide, fun k hk => by rw [Nat.zero_add]; exact q3 k hk, r5⟩, by rw [q1]; exact mS1 _ _ _, ⟨fun k hk => ?_, fun k hk => q2 k (fun z => hk (Or.inr z))⟩⟩
    rw [q1]
    exact z1 k (fun z => hk (Or.inr z))
theorem X12_layMeant_ {v : Nat} (hV : VI M nv) (hT : TI M nv) (hv : v < nv) (h1 : M.1 1 = (dn : Int)) (hdn : dn ≤ 30) (hd : ∀ k, k < dn → M.2 0 k = d k) (hk : Tks d dn) {s : Int} (hs : s = -1 ∨ (0 ≤ s ∧ s < 1 + (secs (tx M v) (tl M v) : Int))) :
   ∃ M', fX12_layMeant (v : Int) s M = some ((), M') ∧ RV M' (mnG (tx M v) d (tl M v) dn s) (mnN (tx M v) (tl M v) dn s) ∧ MV M' 74 0 (mnG (tx M v) d (tl M v) dn s) (mnN (tx M v) (tl M v) dn s) ∧ M'.1 75 = (mnN (tx M v) (tl M v) dn s : Int) ∧ MO oMn rMn M M' := by
  have tv := tx_mv hV hT hv
  have l10 := tl_eq hV hv
  have lv := hV.2.2.2.2 v hv
  have n120 := hV.2.1
  have h30 : tl M v ≤ 30 := by unfold tl; omega
  have hn60 : mnN (tx M v) (tl M v) dn s ≤ 60 := Nat.le_trans mnN_le (by omega)
  have td : MV M 0 0 d dn := ⟨by rw [ml_0]; omega, by decide, fun i hi => by rw [Nat.zero_add]; exact hd i hi, hk⟩
  have o1 : MO oRes rRes M (mSet M 77 0) := MO.set M 77 0 rfl
  have w : ∀ {M2 M3 : Md}, MO oRes rRes M2 M3 → MO oMn rMn M2 M3 := fun o => o.mono (fun k z => Or.inl z) (fun k z => Or.inl z)
  generalize hf : tx M v = f at *
  generalize hm : tl M v = m at *
  unfold fX12_layMeant
  rw [bnd_eq, bnd_eq]
  by_cases c : s = -1
  · obtain ⟨M2, e2, t2, o2⟩ := X12_putResult_ (k := 0) (fr := 0) (m := dn) (f := d) (by decide) (lo := 0) (hi := dn) (Nat.le_refl _) (mSet M 77 0) (fun _ => 0) 0 (Nat.zero_le _) (RV.nil M _) (td.keep o1 (by decide)) (by omega)
    have e2' : fX12_putResult 0 0 ((mSet M 77 0).1 1) (mSet M 77 0) = some ((), M2) := by
      rw [mS2 _ _ (by decide), h1]
      rw [show ((0 : Nat) : Int) + ((0 : Nat) : Int) = 0 from rfl, show ((0 : Nat) : Int) + (dn : Int) = (dn : Int) by omega] at e2
      exact e2
    have hG : mnG f d m dn s = cat (fun _ => 0) 0 (fun i => d (0 + i)) := if_pos c
    have hN : mnN f m dn s = 0 + (dn - 0) := if_pos c
    rw [← hG, ← hN] at t2
    obtain ⟨M3, e3, t3, s3, q3, o3⟩ := layCopy_ t2 hn60 rfl
    refine ⟨M3, ?_, t3, s3, q3, (w (o1.tr o2)).tr o3⟩
    rw [if_neg (fun z => z (by rw [c])), cal_of e2']
    exact e3
  · obtain ⟨k, rfl⟩ : ∃ k : Nat, s = (k : Int) := ⟨s.toNat, by omega⟩
    have hk2 : k < 1 + secs f m := by omega
    have sl := secs_le f m
    have a1 := sst_mono f m (show k ≤ k + 1 by omega)
    have a2 := sst_le f m (k + 1)
    have t1 := tv.keep o1 (by decide)
    have x3 : 30 * (v : Int) = ((30 * v : Nat) : Int) := by omega
    have s1 := X12_sectionFrom_ t1 (s := k) (by omega)
    obtain ⟨M2, e2, t2, o2⟩ := X12_putResult_ (k := 9) (fr := 30 * v) (m := m) (f := f) (by decide) (lo := 0) (hi := sst f m k) (by omega) (mSet M 77 0) (fun _ => 0) 0 (Nat.zero_le _) (RV.nil M _) t1 (by omega)
    rw [show ((30 * v : Nat) : Int) + ((0 : Nat) : Int) = ((30 * v : Nat) : Int) by omega] at e2
    have o12 := o1.tr o2
    obtain ⟨M3, e3, t3, o3⟩ := X12_putResult_ (k := 0) (fr := 0) (m := dn) (f := d) (by decide) (lo := 0) (hi := dn) (Nat.le_refl _) M2 _ _ (Nat.zero_le _) t2 (td.keep o12 (by decide)) (by omega)
    have e3' : fX12_putResult 0 0 (M2.1 1) M2 = some ((), M3) := by
      rw [o12.1 1 (by decide), h1]
      rw [show ((0 : Nat) : Int) + ((0 : Nat) : Int) = 0 from rfl, show ((0 : Nat) : Int) + (dn : Int) = (dn : Int) by omega] at e3
      exact e3
    have o13 := o12.tr o3
    have t13 := tv.keep o13 (by decide)
    have s2 := X12_sectionFrom_ t13 (s := k + 1) (by omega)
    obtain ⟨M4, e4, t4, o4⟩ := X12_putResult_ (k := 9) (fr := 30 * v) (m := m) (f := f) (by decide) (lo := sst f m (k + 1)) (hi := m) (Nat.le_refl _) M3 _ _ a2 t3 t13 (by omega)
    have hG : mnG f d m dn (k : Int) = cat (cat (cat (fun _ => 0) 0 (fun i => f (0 + i))) (0 + (sst f m k - 0)) (fun i => d (0 + i))) (0 + (sst f m k - 0) + (dn - 0)) (fun i => f (sst f m (k + 1) + i)) := if_neg c
    have hN : mnN f m dn (k : Int) = 0 + (sst f m k - 0) + (dn - 0) + (m - sst f m (k + 1)) := if_neg c
    rw [← hG, ← hN] at t4
    obtain ⟨M5, e5, t5, s5, q5, o5⟩ := layCopy_ t4 hn60 rfl
    refine ⟨M5, ?_, t5, s5, q5, (w (o13.tr o4)).tr o5⟩
    rw [if_pos (by rw [w32_n (by omega), show w32 (-1) = -1 from rfl]; omega), bnd_eq, if_pos (inM (n := 120) rfl (by omega) (by decide)), bnd_eq, ix_n (by omega), x3, show (mSet M 77 0).2 10 v = (m : Int) from l10, cal_of s1, cal_of e2, cal_of e3', show (k : Int) + 1 = ((k + 1 : Nat) : Int) by omega, cal_of s2, cal_of e4]
    exact e5
end LAM
