/-! two worlds side by side: the class's and the reference's; a call works on the one, the other stays -/
section FL
variable {p : Program} {l : Launch} {e : Env} {R : Room} {s : State} {m : MethodId} {args : Array Value} {below : List Frame} {meth : Method} {c : Code} {H : Heap} {locs : List Loc} {cells slots : Nat} {Q : State → Prop}
variable {y : MethodName} {bytes cc : ByteArray} {maxL nL n index fr lo pc : Nat} {ret : Option FieldType} {own C : String} {b : Addr} {As rest st : List Value} {ls : Array Slot} {k : KT} {w1 w2 w' : va_W} {vo : Option Value} {v : Value} {A : Nat → Prop} {H0 : Heap}
theorem P_l (hP : va_P k.1 vwCl (w1 ++ w2) H) : va_P k.1 vwCl w1 H := fun j x hx => hP j x (by rw [List.getElem?_append_left (List.getElem?_eq_some_iff.mp hx).1]; exact hx)
theorem P_r (hP : va_P k.1 vwCl (w1 ++ w2) H) : va_P k.1 vwCl w2 H := fun j x hx => hP (w1.length + j) x (by rw [List.getElem?_append_right (by omega), Nat.add_sub_cancel_left]; exact hx)
theorem D_l (hD : va_D A (w1 ++ w2)) : va_D A w1 := by
  have h : ∀ (j : Nat) (x : Nat × va_E), w1[j]? = some x → (w1 ++ w2)[j]? = some x := fun j x hx => by rw [List.getElem?_append_left (List.getElem?_eq_some_iff.mp hx).1]; exact hx
  exact ⟨fun i j x z hx hz q => hD.1 i j x z (h i x hx) (h j z hz) q, fun j x hx => hD.2 j x (h j x hx)⟩
theorem D_r (hD : va_D A (w1 ++ w2)) : va_D A w2 := by
  have h : ∀ (j : Nat) (x : Nat × va_E), w2[j]? = some x → (w1 ++ w2)[w1.length + j]? = some x := fun j x hx => by rw [List.getElem?_append_right (by omega), Nat.add_sub_cancel_left]; exact hx
  refine ⟨fun i j x z hx hz q => ?_, fun j x hx => hD.2 _ x (h j x hx)⟩
  have := hD.1 _ _ x z (h i x hx) (h j z hz) q
  omega
theorem D_x (hD : va_D A (w1 ++ w2)) (i j : Nat) (x z : Nat × va_E) (hx : w1[i]? = some x) (hz : w2[j]? = some z) : x.1 ≠ z.1 := by
  intro q
  have h1 := (List.getElem?_eq_some_iff.mp hx).1
  have := hD.1 i (w1.length + j) x z (by rw [List.getElem?_append_left h1]; exact hx) (by rw [List.getElem?_append_right (by omega), Nat.add_sub_cancel_left]; exact hz) q
  omega
theorem J_l {H1 : Heap} (hP : va_P k.1 vwCl (w1 ++ w2) H) (hD : va_D A (w1 ++ w2)) (h1 : va_P k.1 vwCl w' H1) (h2 : va_D (va_A w1 H.size) w') (h3 : ∀ q : Nat, q < H.size → ¬ va_A w1 H.size q → H1[q]? = H[q]?) (hF : ∀ q, va_A w1 H.size q → A q) : va_P k.1 vwCl (w' ++ w2) H1 ∧ va_D A (w' ++ w2) := by
  have hfar : ∀ (j : Nat) (x : Nat × va_E), w2[j]? = some x → ¬ va_A w1 H.size x.1 := by
    rintro j x hx (⟨i, e9, h9⟩ | h9)
    · exact D_x hD i j _ x h9 hx rfl
    · exact absurd (P_r hP j x hx).lt (Nat.not_lt.mpr h9)
  refine ⟨va_P.app h1 (fun j x hx => ?_), va_D.app (h2.weaken (fun _ q _ h => hF q.1 h)) (D_r hD) (fun i j x z hx hz hxz => ?_)⟩
  · have h5 := P_r hP j x hx
    exact h5.kept (h3 x.1 h5.lt (hfar j x hx))
  · exact hfar j z hz (by rw [← hxz]; exact h2.2 i x hx)
theorem J_r {H1 : Heap} (hP : va_P k.1 vwCl (w1 ++ w2) H) (hD : va_D A (w1 ++ w2)) (h1 : va_P k.1 vwCl w' H1) (h2 : va_D (va_A w2 H.size) w') (h3 : ∀ q : Nat, q < H.size → ¬ va_A w2 H.size q → H1[q]? = H[q]?) (hF : ∀ q, va_A w2 H.size q → A q) : va_P k.1 vwCl (w1 ++ w') H1 ∧ va_D A (w1 ++ w') := by
  have hfar : ∀ (j : Nat) (x : Nat × va_E), w1[j]? = some x → ¬ va_A w2 H.size x.1 := by
    rintro j x hx (⟨i, e9, h9⟩ | h9)
    · exact D_x hD j i x _ hx h9 rfl
    · exact absurd (P_l hP j x hx).lt (Nat.not_lt.mpr h9)
  refine ⟨va_P.app (fun j x hx => ?_) h1, va_D.app (D_l hD) (h2.weaken (fun _ q _ h => hF q.1 h)) (fun i j x z hx hz hxz => ?_)⟩
  · have h5 := P_l hP j x hx
    exact h5.kept (h3 x.1 h5.lt (hfar j x hx))
  · exact hfar i x hx (by rw [hxz]; exact h2.2 j z hz)
theorem lcX (S : CF p m c cc nL s args own) (hM : MW l y bytes maxL ret (rz fr lo) k (.ref b :: As) w1 vo w') (hP : va_P k.1 vwCl (w1 ++ w2) H) (hD : va_D A (w1 ++ w2)) (hS : va_S A H0 H locs) (hA : ∀ q, H0.size ≤ q → A q) (hK : KK k s) (q0 : Nat) {ci : Nat} {q : vw_C} {fs : List Value} (hc : vwCl[ci]? = some q) (he : w1[q0]? = some (b, .inr (ci, fs))) (hy : q.1 = C) (hcode : Cond.code y bytes maxL ret ∈ wsL_law) (hini : Cond.initialized y.cls ∈ wsL_law) (hl : Cond.methodLink own index y ∈ wsL_law) (hi : Cond.instanceMethod y ∈ wsL_law) (hse : Cond.selects C y y ∈ wsL_law) (hd : DN y n) (hn : As.length = n) (hR : RM R fr lo maxL) (hf : cells ≤ R.cells ∧ slots ≤ R.slots) (hsz : ls.size = nL) (hst : st = As.reverse ++ .ref b :: rest) (hW : (rest.map fun v => v.category).sum ≤ 8) (hdg : decode cc pc = .ok (.invokevirtual index, 3))
    (kk : ∀ (H1 : Heap) (locs1 : List Loc), va_P k.1 vwCl (w' ++ w2) H1 → va_D A (w' ++ w2) → va_S A H0 H1 locs1 → W p l e R s m args below meth c H1 locs1 cells slots Q (F0 m (pc + 3) ls (vo.toList ++ rest))) : W p l e R s m args below meth c H locs cells slots Q (F0 m pc ls st) := by
  have hF := fA (D_l hD) hS hA
  refine W.callWr (va_runV S (hM H.size) ⟨cB S hcode hini hl hd hR, S.2.2.2.2 _ hi, S.2.2.2.2 _ hse⟩ ⟨wB.blind, hy ▸ va_recv hK.1 (P_l hP) hc he, wB.at (P_l hP) hK (D_l hD)⟩ rfl hn hsz hst (lv_room hW) hdg hf) hS (fun q _ h => hF q h) hF (fun H1 locs1 h1 h2 h3 h4 => ?_)
  obtain ⟨hP', hD'⟩ := J_l hP hD h1 h2 h3 hF
  exact kk H1 locs1 hP' hD' h4
theorem lcM (S : CF p m c cc nL s args own) (hM : MW l y bytes maxL ret (rz fr lo) k (.ref b :: As) w2 vo w') (hP : va_P k.1 vwCl (w1 ++ w2) H) (hD : va_D A (w1 ++ w2)) (hS : va_S A H0 H locs) (hA : ∀ q, H0.size ≤ q → A q) (hK : KK k s) (q0 : Nat) {ci : Nat} {q : vw_C} {fs : List Value} (hc : vwCl[ci]? = some q) (he : w2[q0]? = some (b, .inr (ci, fs))) (hy : q.1 = C) (hcode : Cond.code y bytes maxL ret ∈ wsL_law) (hini : Cond.initialized y.cls ∈ wsL_law) (hl : Cond.methodLink own index y ∈ wsL_law) (hi : Cond.instanceMethod y ∈ wsL_law) (hse : Cond.selects C y y ∈ wsL_law) (hd : DN y n) (hn : As.length = n) (hR : RM R fr lo maxL) (hf : cells ≤ R.cells ∧ slots ≤ R.slots) (hsz : ls.size = nL) (hst : st = As.reverse ++ .ref b :: rest) (hW : (rest.map fun v => v.category).sum ≤ 8) (hdg : decode cc pc = .ok (.invokevirtual index, 3))
    (kk : ∀ (H1 : Heap) (locs1 : List Loc), va_P k.1 vwCl (w1 ++ w') H1 → va_D A (w1 ++ w') → va_S A H0 H1 locs1 → W p l e R s m args below meth c H1 locs1 cells slots Q (F0 m (pc + 3) ls (vo.toList ++ rest))) : W p l e R s m args below meth c H locs cells slots Q (F0 m pc ls st) := by
  have hF := fA (D_r hD) hS hA
  refine W.callWr (va_runV S (hM H.size) ⟨cB S hcode hini hl hd hR, S.2.2.2.2 _ hi, S.2.2.2.2 _ hse⟩ ⟨wB.blind, hy ▸ va_recv hK.1 (P_r hP) hc he, wB.at (P_r hP) hK (D_r hD)⟩ rfl hn hsz hst (lv_room hW) hdg hf) hS (fun q _ h => hF q h) hF (fun H1 locs1 h1 h2 h3 h4 => ?_)
  obtain ⟨hP', hD'⟩ := J_r hP hD h1 h2 h3 hF
  exact kk H1 locs1 hP' hD' h4
theorem x_sld (hx : p.tables.exec = Jvm.exec) (hb : c.code = cc) {b L : Nat} {xs : Nat → Int32} (hX : va_X b L xs s H0) (hbl : b < H0.size) (hbA : ¬ A b) (hS : va_S A H0 H locs) {i : Int32} {j : Nat} (hi : i = nI j) (hj : j < L) (hL : L < 2 ^ 31) (hdg : decode cc pc = .ok (.iaload, 1))
    (kk : W p l e R s m args below meth c H locs cells slots Q (F0 m (pc + 1) ls (.int (xs j) :: rest))) : W p l e R s m args below meth c H locs cells slots Q (F0 m pc ls (.int i :: .ref b :: rest)) := by
  subst hi
  exact va_sld hx hb hX hbl hbA hS (vp_in_nI hj hL) hdg (by rw [nI_clamp (Nat.lt_trans hj hL)]; exact kk)
end FL
