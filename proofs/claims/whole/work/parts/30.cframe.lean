/-! constructors: a method that makes cells; and its call -/
def cQ (k : KT) (B : va_W → Prop) (A : Nat → Prop) : Array Value → State → Outcome → State → Prop := fun _ st o t => (o = .returned none ∧ ∃ ws' : va_W, B ws' ∧ va_P k.1 vwCl ws' t.heap ∧ va_D A ws') ∧ va_F A st t
abbrev rc (f n mc ms : Nat) : Room := { frames := f, cells := mc, slots := ms, locals := n }
abbrev MC (l : Launch) (y : MethodName) (cc : ByteArray) (nL : Nat) (rm : Room) (k : KT) (av : List Value) (ws : va_W) (B : va_W → Prop) (mc ms : Nat) : Prop :=
  ∀ sz : Nat, Met l y (Cond.code y cc nL none :: wsL_law) rm (va_Pc av (wB k ws sz)) (cQ k B (va_A ws sz)) mc ms (va_A ws sz)
abbrev WC (p : Program) (l : Launch) (e : Env) (s : State) (m : MethodId) (below : List Frame) (meth : Method) (c : Code) (y : MethodName) (cc : ByteArray) (nL : Nat) (rm : Room) (av : List Value) (k : KT) (B : va_W → Prop) (A : Nat → Prop) (mc ms : Nat) (H : Heap) (locs : List Loc) (cells slots : Nat) (g : JFrame) : Prop :=
  W p l e (headSpec (Cond.code y cc nL none :: wsL_law) rm).room s m av.toArray below meth c H locs cells slots (MQ below (cQ k B A) av.toArray s mc ms A) g
section FC
variable {p : Program} {l : Launch} {e : Env} {R : Room} {s : State} {m : MethodId} {args : Array Value} {below : List Frame} {meth : Method} {c : Code} {H : Heap} {locs : List Loc} {cells slots : Nat} {Q : State → Prop}
variable {y : MethodName} {bytes cc : ByteArray} {maxL nL n index fr lo pc mc ms : Nat} {ret : Option FieldType} {own C host : String} {b : Addr} {As rest st : List Value} {ls : Array Slot} {k : KT} {ws : va_W} {A : Nat → Prop} {H0 : Heap}
theorem W.callCt {B : va_W → Prop} {A0 A1 : Nat → Prop} {free : Addr → Prop} {a : Array Value} {g : JFrame} (hr : va_Run p l e R s m args below meth c H locs cells slots mc ms g rest (cQ k B A1 a) free) (hS : va_S A0 H0 H locs) (hA : ∀ q, q < H.size → A1 q → A0 q) (hf : ∀ q, free q → A0 q)
    (kk : ∀ (H1 : Heap) (locs1 : List Loc) (ws' : va_W), B ws' → va_P k.1 vwCl ws' H1 → va_D A1 ws' → (∀ q : Nat, q < H.size → ¬ A1 q → H1[q]? = H[q]?) → va_S A0 H0 H1 locs1 → W p l e R s m args below meth c H1 locs1 (cells + mc) (slots + ms) Q { g with pc := g.pc + 3, stack := rest }) : W p l e R s m args below meth c H locs cells slots Q g := by
  intro T hT X
  obtain ⟨v', st₀, t, T', L, h0, X', hL, e1, e2, ⟨⟨hv, ws', hB, hP, hD⟩, hz, hk⟩, st⟩ := hr T hT X
  cases hv
  rw [h0] at hz hk
  obtain ⟨t2, a1, b1⟩ := kk T'.heap (locs ++ L) ws' hB (by rw [e1]; exact hP) hD (fun q h1 h2 => by rw [e1]; exact hk q h1 h2)
    ⟨by rw [e1]; exact Nat.le_trans hS.1 hz, fun q h1 h2 => by
      rw [e1]
      by_cases hq : A1 q
      · exact absurd (hA q (Nat.lt_of_lt_of_le h1 hS.1) hq) h2
      · rw [hk q (Nat.lt_of_lt_of_le h1 hS.1) hq]; exact hS.2.1 q h1 h2, fun q hq => by
      rcases List.mem_append.mp hq with h | h
      · exact hS.2.2 q h
      · exact hf _ (hL q h)⟩ T' rfl X'
  exact ⟨t2, st t2 a1, b1⟩
/-- the last cell of the caller's world is the new object: behind the constructor its world stands in its place -/
theorem ctor_join {wr ws' : va_W} {e0 : va_E} {H1 : Heap} (hP : va_P k.1 vwCl (wr ++ [(b, e0)]) H) (hD : va_D A (wr ++ [(b, e0)])) (hS : va_S A H0 H locs) (hA : ∀ q, H0.size ≤ q → A q)
    (h1 : va_P k.1 vwCl ws' H1) (h2 : va_D (va_A [(b, e0)] H.size) ws') (h3 : ∀ q : Nat, q < H.size → ¬ va_A [(b, e0)] H.size q → H1[q]? = H[q]?) (hF : ∀ q, va_A [(b, e0)] H.size q → A q) : va_P k.1 vwCl (wr ++ ws') H1 ∧ va_D A (wr ++ ws') := by
  have hlast : (wr ++ [(b, e0)])[wr.length]? = some (b, e0) := by simp
  have hin : ∀ (j : Nat) (x : Nat × va_E), wr[j]? = some x → (wr ++ [(b, e0)])[j]? = some x ∧ j < wr.length := by
    intro j x hx
    have hj := (List.getElem?_eq_some_iff.mp hx).1
    exact ⟨by rw [List.getElem?_append_left hj]; exact hx, hj⟩
  have hfar : ∀ (j : Nat) (x : Nat × va_E), wr[j]? = some x → ¬ va_A [(b, e0)] H.size x.1 := by
    intro j x hx
    obtain ⟨hx2, hj⟩ := hin j x hx
    rintro (⟨i, e9, h9⟩ | h9)
    · cases i with
      | zero =>
        have h10 : (b, e0) = (x.1, e9) := Option.some.inj h9
        have h11 : x.1 = b := (congrArg Prod.fst h10).symm
        have := hD.1 j wr.length x (b, e0) hx2 hlast h11
        omega
      | succ i => cases h9
    · exact absurd (hP j x hx2).lt (Nat.not_lt.mpr h9)
  refine ⟨va_P.app (fun j x hx => ?_) h1, va_D.app ⟨fun i j x z hx hz hxz => ?_, fun j x hx => ?_⟩ (h2.weaken (fun _ q _ h => hF q.1 h)) (fun i j x z hx hz hxz => ?_)⟩
  · have h5 := hP j x (hin j x hx).1
    exact h5.kept (h3 x.1 h5.lt (hfar j x hx))
  · exact hD.1 i j x z (hin i x hx).1 (hin j z hz).1 hxz
  · exact hD.2 j x (hin j x hx).1
  · exact hfar i x hx (by rw [hxz]; exact h2.2 j z hz)
theorem fA1 {wr : va_W} {e0 : va_E} (hD : va_D A (wr ++ [(b, e0)])) (hS : va_S A H0 H locs) (hA : ∀ q, H0.size ≤ q → A q) : ∀ q, va_A [(b, e0)] H.size q → A q := by
  rintro q (⟨i, e9, h9⟩ | h9)
  · cases i with
    | zero =>
      have h10 : (b, e0) = (q, e9) := Option.some.inj h9
      have h11 : b = q := congrArg Prod.fst h10
      rw [← h11]
      exact hD.2 wr.length (b, e0) (by simp)
    | succ i => cases h9
  · exact hA q (Nat.le_trans hS.1 h9)
theorem last1 {wr : va_W} {e0 : va_E} (hP : va_P k.1 vwCl (wr ++ [(b, e0)]) H) (hD : va_D A (wr ++ [(b, e0)])) : va_P k.1 vwCl [(b, e0)] H ∧ va_D A [(b, e0)] := by
  have hlast : (wr ++ [(b, e0)])[wr.length]? = some (b, e0) := by simp
  have h1 : ∀ (j : Nat) (x : Nat × va_E), ([(b, e0)] : va_W)[j]? = some x → x = (b, e0) ∧ j = 0 := by
    intro j x hx
    cases j with
    | zero => exact ⟨(Option.some.inj hx).symm, rfl⟩
    | succ j => cases hx
  refine ⟨fun j x hx => by rw [(h1 j x hx).1]; exact hP _ _ hlast, fun i j x z hx hz _ => by rw [(h1 i x hx).2, (h1 j z hz).2], fun j x hx => by rw [(h1 j x hx).1]; exact hD.2 _ _ hlast⟩
theorem ctN (S : CF p m c cc nL s args own) {wr : va_W} {e0 : va_E} {B : va_W → Prop} (hM : MC l y bytes maxL (rc fr lo mc ms) k (.ref b :: As) [(b, e0)] B mc ms) (hP : va_P k.1 vwCl (wr ++ [(b, e0)]) H) (hD : va_D A (wr ++ [(b, e0)])) (hS : va_S A H0 H locs) (hA : ∀ q, H0.size ≤ q → A q) (hK : KK k s) (hcode : Cond.code y bytes maxL none ∈ wsL_law) (hini : Cond.initialized y.cls ∈ wsL_law) (hl : Cond.methodLinkNest own index y host ∈ nwL) (hi : Cond.instanceMethod y ∈ wsL_law) (hy : y.name = "<init>") (hd : DN y n) (hn : As.length = n) (hR : RM R fr lo maxL) (hf : cells + mc ≤ R.cells ∧ slots + ms ≤ R.slots) (hsz : ls.size = nL) (hst : st = As.reverse ++ .ref b :: rest) (hW : (rest.map fun v => v.category).sum ≤ 8) (hdg : decode cc pc = .ok (.invokespecial index, 3))
    (kk : ∀ (H1 : Heap) (locs1 : List Loc) (ws' : va_W), B ws' → va_P k.1 vwCl (wr ++ ws') H1 → va_D A (wr ++ ws') → va_S A H0 H1 locs1 → W p l e R s m args below meth c H1 locs1 (cells + mc) (slots + ms) Q (F0 m (pc + 3) ls rest)) : W p l e R s m args below meth c H locs cells slots Q (F0 m pc ls st) := by
  have hF := fA1 hD hS hA
  obtain ⟨hPc, hDc⟩ := last1 hP hD
  refine W.callCt (va_runIN S (hM H.size) ⟨va_cnB n S.2.2.2.2 (gdC hcode) rfl rfl rfl (hK.2 _ hl) (S.2.2.2.2 _ hini) hd hR, hy, S.2.2.2.2 _ hi⟩ ⟨wB.blind, wB.at hPc hK hDc⟩ rfl hn hsz hst (lv_room hW) hdg hf) hS (fun q _ h => hF q h) hF (fun H1 locs1 ws' hB h1 h2 h3 h4 => ?_)
  obtain ⟨hP', hD'⟩ := ctor_join hP hD hS hA h1 h2 h3 hF
  exact kk H1 locs1 ws' hB hP' hD' h4
theorem ctI (S : CF p m c cc nL s args own) {wr : va_W} {e0 : va_E} {B : va_W → Prop} (hM : MC l y bytes maxL (rc fr lo mc ms) k (.ref b :: As) [(b, e0)] B mc ms) (hP : va_P k.1 vwCl (wr ++ [(b, e0)]) H) (hD : va_D A (wr ++ [(b, e0)])) (hS : va_S A H0 H locs) (hA : ∀ q, H0.size ≤ q → A q) (hK : KK k s) (hcode : Cond.code y bytes maxL none ∈ wsL_law) (hini : Cond.initialized y.cls ∈ wsL_law) (hl : Cond.methodLink own index y ∈ wsL_law) (hi : Cond.instanceMethod y ∈ wsL_law) (hy : y.name = "<init>") (hd : DN y n) (hn : As.length = n) (hR : RM R fr lo maxL) (hf : cells + mc ≤ R.cells ∧ slots + ms ≤ R.slots) (hsz : ls.size = nL) (hst : st = As.reverse ++ .ref b :: rest) (hW : (rest.map fun v => v.category).sum ≤ 8) (hdg : decode cc pc = .ok (.invokespecial index, 3))
    (kk : ∀ (H1 : Heap) (locs1 : List Loc) (ws' : va_W), B ws' → va_P k.1 vwCl (wr ++ ws') H1 → va_D A (wr ++ ws') → va_S A H0 H1 locs1 → W p l e R s m args below meth c H1 locs1 (cells + mc) (slots + ms) Q (F0 m (pc + 3) ls rest)) : W p l e R s m args below meth c H locs cells slots Q (F0 m pc ls st) := by
  have hF := fA1 hD hS hA
  obtain ⟨hPc, hDc⟩ := last1 hP hD
  refine W.callCt (va_runI S (hM H.size) ⟨callB_of n S.2.2.2.2 (gdC hcode) rfl rfl rfl (S.2.2.2.2 _ hini) (S.2.2.2.2 _ hl) hd hR, hy, S.2.2.2.2 _ hi⟩ ⟨wB.blind, wB.at hPc hK hDc⟩ rfl hn hsz hst (lv_room hW) hdg hf) hS (fun q _ h => hF q h) hF (fun H1 locs1 ws' hB h1 h2 h3 h4 => ?_)
  obtain ⟨hP', hD'⟩ := ctor_join hP hD hS hA h1 h2 h3 hF
  exact kk H1 locs1 ws' hB hP' hD' h4
theorem x_newa (hx : p.tables.exec = Jvm.exec) (hb : c.code = cc) {atype : ArrayType} (harr : (Cond.arrayClass (newarray.typeOf atype)).before args s = true) {ty : FieldType} (hty : newarray.typeOf atype = ty) (hK : KK k s) (t0 : Nat) {cA0 : ClassId} (ht : (tyA k)[t0]? = some (cA0, ty)) (hpr : ty = .int ∨ ty = .long ∨ ty = .boolean) (hP : va_P k.1 vwCl ws H) (hD : va_D A ws) (hS : va_S A H0 H locs) (hA : ∀ q, H0.size ≤ q → A q)
    {n : Int32} {N' : Nat} {a0 : vp_A} (ha : ∀ cA : ClassId, vp_cell cA a0 = arrV cA N' (fun _ => defaultValue ty)) (hn : ¬ n < 0) (hN : n.toNatClampNeg = N') (hbytes : N' * componentBytes ty ≤ 536870912) (hcells : cells + 1 ≤ R.cells) (hslots : slots + N' ≤ R.slots) (hdg : decode cc pc = .ok (.newarray atype, 2))
    (kk : ∀ (q : Nat) (H1 : Heap), va_P k.1 vwCl (ws ++ [(q, .inl (cA0, a0))]) H1 → va_D A (ws ++ [(q, .inl (cA0, a0))]) → va_S A H0 H1 locs →
      W p l e R s m args below meth c H1 locs (cells + 1) (slots + N') Q (F0 m (pc + 2) ls (.ref q :: rest))) : W p l e R s m args below meth c H locs cells slots Q (F0 m pc ls (.int n :: rest)) := by
  refine va_newa hx hb harr hty hK.1 hP hD hS hA ha hn hN hbytes hcells hslots hdg (fun q cA H1 hK1 h1 h2 h3 => ?_)
  have e1 := (hK1.2 (tyA k).length (cA, ty) (by simp)).2
  have e2 := (hK.1.2 t0 (cA0, ty) ht).2
  have e3 : cA = cA0 := by
    rcases hpr with rfl | rfl | rfl <;> exact Option.some.inj (Eq.trans (Eq.symm e1) e2)
  subst e3
  exact kk q H1 h1 h2 h3
end FC
